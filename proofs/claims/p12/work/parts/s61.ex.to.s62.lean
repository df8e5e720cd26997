section
/-! ===== a pure function comes to an end, and its end is such ===== -/
def Ex {ρ : Type} (t : Option (ρ × zS)) (Q : ρ → (Nat → Nat → Int32) → (Nat → Nat → Int64) → Prop) : Prop := ∃ x g L, t = some (x, (g, L)) ∧ Q x g L
section EX
variable {ρ β : Type} {Q : ρ → (Nat → Nat → Int32) → (Nat → Nat → Int64) → Prop} {g : Nat → Nat → Int32} {L : Nat → Nat → Int64}
theorem Ex.ret {x : ρ} (h : Q x g L) : Ex (some (x, (g, L))) Q := ⟨x, g, L, rfl, h⟩
theorem Ex.mono {t : Option (ρ × zS)} {P : ρ → (Nat → Nat → Int32) → (Nat → Nat → Int64) → Prop} (h : Ex t P) (hq : ∀ x g L, P x g L → Q x g L) : Ex t Q := by
  obtain ⟨x, g, L, e, p⟩ := h
  exact ⟨x, g, L, e, hq x g L p⟩
theorem Ex.ck {i : Int32} {N : Nat} {K : Option (ρ × zS)} (h1 : 0 ≤ i.toInt) (h2 : i.toInt < (N : Int)) (h : Ex K Q) : Ex (ck i N K) Q := by rw [ck_eq h1 h2]; exact h
theorem Ex.cnz {y : Int32} {K : Option (ρ × zS)} (h1 : ¬ y = 0) (h : Ex K Q) : Ex (cnz y K) Q := by show Ex (if y = 0 then none else K) Q; rw [if_neg h1]; exact h
theorem Ex.cnzL {y : Int64} {K : Option (ρ × zS)} (h1 : ¬ y = 0) (h : Ex K Q) : Ex (cnzL y K) Q := by show Ex (if y = 0 then none else K) Q; rw [if_neg h1]; exact h
theorem Ex.ckb {x : Int32} {K : Option (ρ × zS)} (h1 : narrow .boolean (.int x) = .int x) (h : Ex K Q) : Ex (ckb x K) Q := by show Ex (if narrow .boolean (.int x) = .int x then K else none) Q; rw [if_pos h1]; exact h
theorem Ex.ckr {q : Nat} {K : Option (ρ × zS)} (h1 : 25 ≤ q) (h2 : q ≤ 28) (h : Ex K Q) : Ex (ckr q K) Q := by show Ex (if 25 ≤ q ∧ q ≤ 28 then K else none) Q; rw [if_pos ⟨h1, h2⟩]; exact h
theorem Ex.lti {v : Int32} {K : Int32 → Option (ρ × zS)} (h : ∀ x : Int32, x = v → x.toInt = v.toInt → Ex (K x) Q) : Ex (lti v K) Q := h v rfl rfl
theorem Ex.ltl {v : Int64} {K : Int64 → Option (ρ × zS)} (h : ∀ x : Int64, x = v → Ex (K x) Q) : Ex (ltl v K) Q := h v rfl
theorem Ex.ltn {v : Nat} {K : Nat → Option (ρ × zS)} (h : ∀ x : Nat, x = v → Ex (K x) Q) : Ex (ltn v K) Q := h v rfl
theorem Ex.sti {T : Nat → Nat → Option (Int × Int)} {k j : Nat} {x : Int32} {K : (Nat → Nat → Int32) → Option (ρ × zS)} (hI : zI T (upd2 g k j x)) (h : ∀ g1, g1 = upd2 g k j x → zI T g1 → Ex (K g1) Q) : Ex (sti g k j x K) Q := h _ rfl hI
theorem Ex.stA {T : Nat → Nat → Option (Int × Int)} {k : Nat} {f : Nat → Int32} {K : (Nat → Nat → Int32) → Option (ρ × zS)} (hI : zI T (updA g k f)) (h : ∀ g1, g1 = updA g k f → zI T g1 → Ex (K g1) Q) : Ex (stA g k f K) Q := h _ rfl hI
theorem Ex.stl {k j : Nat} {x : Int64} {K : (Nat → Nat → Int64) → Option (ρ × zS)} (h : ∀ L1, L1 = updL L k j x → Ex (K L1) Q) : Ex (stl L k j x K) Q := h _ rfl
theorem Ex.cb {m : Option (β × zS)} {P : β → (Nat → Nat → Int32) → (Nat → Nat → Int64) → Prop} {K : β → (Nat → Nat → Int32) → (Nat → Nat → Int64) → Option (ρ × zS)} (hm : Ex m P) (h : ∀ x g1 L1, P x g1 L1 → Ex (K x g1 L1) Q) : Ex (cb m K) Q := by
  obtain ⟨x, g1, L1, e, p⟩ := hm
  rw [e]; exact h x g1 L1 p
theorem Ex.ite {c : Prop} [Decidable c] {A B : Option (ρ × zS)} (h1 : c → Ex A Q) (h2 : ¬ c → Ex B Q) : Ex (if c then A else B) Q := by
  by_cases hc : c
  · rw [if_pos hc]; exact h1 hc
  · rw [if_neg hc]; exact h2 hc
theorem Ex.loop {α : Type} {step : (α → Option (ρ × zS)) → α → Option (ρ × zS)} {n : Nat} {v : α} (I : α → Prop) (m : α → Int) (h0 : 0 < n) (hn : m v < (n : Int)) (hv : I v) (H : ∀ (k : α → Option (ρ × zS)) v, I v → (∀ v', I v' → m v' < m v → 0 < m v → Ex (k v') Q) → Ex (step k v) Q) : Ex (whileK step n v) Q := by
  have key : ∀ (n : Nat) (v : α), I v → (m v).toNat < n → Ex (whileK step n v) Q := by
    intro n
    induction n with
    | zero => intro v _ h; exact absurd h (Nat.not_lt_zero _)
    | succ n ih => intro v hv h; exact H _ v hv (fun v' h1 h2 h3 => ih v' h1 (by omega))
  exact key n v hv (by omega)
end EX
section EXX
variable {ρ β : Type} {Q : Except String ρ → (Nat → Nat → Int32) → (Nat → Nat → Int64) → Prop} {g : Nat → Nat → Int32} {L : Nat → Nat → Int64}
theorem Ex.cbx {m : Option (Except String β × zS)} {P : Except String β → (Nat → Nat → Int32) → (Nat → Nat → Int64) → Prop} {K : β → (Nat → Nat → Int32) → (Nat → Nat → Int64) → Option (Except String ρ × zS)} (hm : Ex m P) (hE : ∀ E g1 L1, P (.error E) g1 L1 → Q (.error E) g1 L1) (h : ∀ x g1 L1, P (.ok x) g1 L1 → Ex (K x g1 L1) Q) : Ex (cbx m K) Q := by
  obtain ⟨x, g1, L1, e, p⟩ := hm
  rw [e]
  cases x with
  | error E => exact ⟨.error E, g1, L1, rfl, hE E g1 L1 p⟩
  | ok x => exact h x g1 L1 p
end EXX
end
section
set_option maxHeartbeats 4000000 in
set_option maxRecDepth 100000 in
theorem sX1_isUpstairs_8 (fu : Nat) (hfu : 1180591620717411303424 ≤ fu) (p1 : Int32) (g0 : Nat → Nat → Int32) (L0 : Nat → Nat → Int64) (hI : zI XT g0) (hp1 : (0 ≤ (Int32.toInt p1) ∧ (Int32.toInt p1) ≤ 11)) : Ex (fX1_isUpstairs_8 fu p1 g0 L0) (fun (r : Int32) (g1 : Nat → Nat → Int32) (L1 : Nat → Nat → Int64) => zI XT g1 ∧ g1 12 5 = g0 12 5 ∧ g1 0 13 = g0 0 13 ∧ (0 ≤ (Int32.toInt r) ∧ (Int32.toInt r) ≤ 1)) := by
  have k0_0 : g0 12 5 = g0 12 5 := rfl
  have k0_1 : g0 0 13 = g0 0 13 := rfl
  unfold fX1_isUpstairs_8
  refine Ex.ck (by omega) (by omega) ?_
  have J18 : ∀ (t0 : Int32) (g : Nat → Nat → Int32) (L : Nat → Nat → Int64), (0 ≤ (Int32.toInt t0) ∧ (Int32.toInt t0) ≤ 1) → zI XT g → g 12 5 = g0 12 5 → g 0 13 = g0 0 13 → Ex (fX1_isUpstairs_8_p18 fu t0 g L) (fun (r : Int32) (g1 : Nat → Nat → Int32) (L1 : Nat → Nat → Int64) => zI XT g1 ∧ g1 12 5 = g0 12 5 ∧ g1 0 13 = g0 0 13 ∧ (0 ≤ (Int32.toInt r) ∧ (Int32.toInt r) ≤ 1)) := by
    intro t0 g L hb_t0 hI k0_0 k0_1
    unfold fX1_isUpstairs_8_p18
    refine Ex.ckb (z_bool (by omega)) ?_
    exact Ex.ret ⟨hI, k0_0, k0_1, (by omega)⟩
  refine Ex.ite (fun c1 => ?_) (fun c1 => ?_)
  ·
    have c1 := icc_lt (m := (Int32.toInt (g0 27 (Int32.toNatClampNeg p1)))) (n := 5) rfl (by decide) c1
    exact J18 0 g0 L0 (by decide) hI k0_0 k0_1
  ·
    have c1 := icc_nlt (m := (Int32.toInt (g0 27 (Int32.toNatClampNeg p1)))) (n := 5) rfl (by decide) c1
    exact J18 1 g0 L0 (by decide) hI k0_0 k0_1
set_option maxHeartbeats 4000000 in
set_option maxRecDepth 100000 in
theorem sX1_late_8 (fu : Nat) (hfu : 1180591620717411303424 ≤ fu) (p1 : Int32) (g0 : Nat → Nat → Int32) (L0 : Nat → Nat → Int64) (hI : zI XT g0) (hp1 : (0 ≤ (Int32.toInt p1) ∧ (Int32.toInt p1) ≤ 11)) : Ex (fX1_late_8 fu p1 g0 L0) (fun (r : Int32) (g1 : Nat → Nat → Int32) (L1 : Nat → Nat → Int64) => zI XT g1 ∧ g1 0 13 = g0 0 13) := by
  have k0_0 : g0 0 13 = g0 0 13 := rfl
  unfold fX1_late_8
  refine Ex.ck (by omega) (by omega) ?_
  refine Ex.ck (by omega) (by omega) ?_
  refine Ex.ltn (fun q1 q1e => ?_)
  have q1b : 57 ≤ q1 ∧ q1 < 69 := by have := Nat.mod_lt (Int32.toNatClampNeg p1) (show 12 > 0 by decide); omega
  generalize z2q : ((g0 44 (Int32.toNatClampNeg p1)) - (g0 q1 4)) = z2
  exact Ex.ret ⟨hI, k0_0⟩
set_option maxHeartbeats 4000000 in
set_option maxRecDepth 100000 in
theorem sX1_lost_8 (fu : Nat) (hfu : 1180591620717411303424 ≤ fu) (g0 : Nat → Nat → Int32) (L0 : Nat → Nat → Int64) (hI : zI XT g0) : Ex (fX1_lost_8 fu g0 L0) (fun (r : Int32) (g1 : Nat → Nat → Int32) (L1 : Nat → Nat → Int64) => zI XT g1 ∧ g1 0 13 = g0 0 13) := by
  have k0_0 : g0 0 13 = g0 0 13 := rfl
  unfold fX1_lost_8
  have lp4 : ∀ (v1 : Int32) (v2 : Int32) (g : Nat → Nat → Int32) (L : Nat → Nat → Int64), (0 ≤ (Int32.toInt v2) ∧ (Int32.toInt v2) ≤ 12) → zI XT g → g 0 13 = g0 0 13 → Ex (fX1_lost_8_l4 fu v1 v2 g L) (fun (r : Int32) (g1 : Nat → Nat → Int32) (L1 : Nat → Nat → Int64) => zI XT g1 ∧ g1 0 13 = g0 0 13) := by
    intro v1 v2 g L hb_v2 hI k0_0
    unfold fX1_lost_8_l4
    refine Ex.loop (fun v => ((0 ≤ (Int32.toInt (v.2.1)) ∧ (Int32.toInt (v.2.1)) ≤ 12)) ∧ (zI XT (v.2.2.1)) ∧ ((v.2.2.1) 0 13 = g0 0 13)) (fun v => 13 - (Int32.toInt (v.2.1))) (by omega) (by show 13 - (Int32.toInt v2) < (fu : Int); omega) ⟨hb_v2, hI, k0_0⟩ (fun k4 v hv ih4 => ?_)
    obtain ⟨v1, v2, g, L⟩ := v
    obtain ⟨hb_v2, hI, k0_0⟩ := hv
    have hb_v2 : (0 ≤ (Int32.toInt v2) ∧ (Int32.toInt v2) ≤ 12) := hb_v2
    have hI : zI XT g := hI
    have k0_0 : g 0 13 = g0 0 13 := k0_0
    have ih4 : ∀ v' : Int32 × Int32 × (Nat → Nat → Int32) × (Nat → Nat → Int64), (((0 ≤ (Int32.toInt (v'.2.1)) ∧ (Int32.toInt (v'.2.1)) ≤ 12)) ∧ (zI XT (v'.2.2.1)) ∧ ((v'.2.2.1) 0 13 = g0 0 13)) → 13 - (Int32.toInt (v'.2.1)) < 13 - (Int32.toInt v2) → 0 < 13 - (Int32.toInt v2) → Ex (k4 v') (fun (r : Int32) (g1 : Nat → Nat → Int32) (L1 : Nat → Nat → Int64) => zI XT g1 ∧ g1 0 13 = g0 0 13) := ih4
    show Ex (fX1_lost_8_s4 fu k4 v1 v2 g L) (fun (r : Int32) (g1 : Nat → Nat → Int32) (L1 : Nat → Nat → Int64) => zI XT g1 ∧ g1 0 13 = g0 0 13)
    unfold fX1_lost_8_s4
    have b1 : 0 ≤ (Int32.toInt (g 1 2)) ∧ (Int32.toInt (g 1 2)) ≤ 12 := hI 1 2 0 12 rfl
    refine Ex.ite (fun c2 => ?_) (fun c2 => ?_)
    ·
      have c2 := icc_le (m := (Int32.toInt (g 1 2))) (n := (Int32.toInt v2)) rfl rfl c2
      exact Ex.ret ⟨hI, k0_0⟩
    ·
      have c2 := icc_nle (m := (Int32.toInt (g 1 2))) (n := (Int32.toInt v2)) rfl rfl c2
      refine Ex.ck (by omega) (by omega) ?_
      refine Ex.ltn (fun q3 q3e => ?_)
      have q3b : 57 ≤ q3 ∧ q3 < 69 := by have := Nat.mod_lt (Int32.toNatClampNeg v2) (show 12 > 0 by decide); omega
      refine Ex.cb (sX1_late_8 fu hfu v2 g L hI (by omega)) (fun x4 g5 L6 hq8 => ?_)
      obtain ⟨hI, kk0⟩ := hq8
      have hI : zI XT g5 := hI
      have k0_0 : g5 0 13 = g0 0 13 := kk0.trans k0_0
      generalize z9q : ((g q3 8) * x4) = z9
      generalize z10q : (v1 + z9) = z10
      refine Ex.lti (fun x11 x11e x11i => ?_)
      generalize z12q : (v2 + 1) = z12
      have e13 : (Int32.toInt z12) = (Int32.toInt v2) + 1 := by rw [← z12q]; exact ic_addc rfl (by decide) (by omega) (by omega)
      exact ih4 (x11, z12, g5, L6) ⟨(show (0 ≤ (Int32.toInt z12) ∧ (Int32.toInt z12) ≤ 12) from by omega), hI, k0_0⟩ (by show 13 - (Int32.toInt z12) < _; omega) (by omega)
  exact lp4 0 0 g0 L0 (by decide) hI k0_0
set_option maxHeartbeats 4000000 in
set_option maxRecDepth 100000 in
theorem sX1_comingOf_8 (fu : Nat) (hfu : 1180591620717411303424 ≤ fu) (p1 : Int32) (p2 : Int32) (p3 : Int32) (g0 : Nat → Nat → Int32) (L0 : Nat → Nat → Int64) (hI : zI XT g0) (hp2 : (0 ≤ (Int32.toInt p2) ∧ (Int32.toInt p2) ≤ 6)) : Ex (fX1_comingOf_8 fu p1 p2 p3 g0 L0) (fun (r : Int32) (g1 : Nat → Nat → Int32) (L1 : Nat → Nat → Int64) => zI XT g1 ∧ g1 0 13 = g0 0 13) := by
  have k0_0 : g0 0 13 = g0 0 13 := rfl
  unfold fX1_comingOf_8
  have lp6 : ∀ (v1 : Int32) (v2 : Int32) (v4 : Int32) (v5 : Int32) (g : Nat → Nat → Int32) (L : Nat → Nat → Int64), (0 ≤ (Int32.toInt v2) ∧ (Int32.toInt v2) ≤ 6) → (0 ≤ (Int32.toInt v5) ∧ (Int32.toInt v5) ≤ 6) → zI XT g → g 0 13 = g0 0 13 → Ex (fX1_comingOf_8_l6 fu v1 v2 v4 v5 g L) (fun (r : Int32) (g1 : Nat → Nat → Int32) (L1 : Nat → Nat → Int64) => zI XT g1 ∧ g1 0 13 = g0 0 13) := by
    intro v1 v2 v4 v5 g L hb_v2 hb_v5 hI k0_0
    unfold fX1_comingOf_8_l6
    refine Ex.loop (fun v => ((0 ≤ (Int32.toInt v2) ∧ (Int32.toInt v2) ≤ 6)) ∧ ((0 ≤ (Int32.toInt (v.2.1)) ∧ (Int32.toInt (v.2.1)) ≤ 6)) ∧ (zI XT (v.2.2.1)) ∧ ((v.2.2.1) 0 13 = g0 0 13)) (fun v => 7 - (Int32.toInt (v.2.1))) (by omega) (by show 7 - (Int32.toInt v5) < (fu : Int); omega) ⟨hb_v2, hb_v5, hI, k0_0⟩ (fun k6 v hv ih6 => ?_)
    obtain ⟨v4, v5, g, L⟩ := v
    obtain ⟨hb_v2, hb_v5, hI, k0_0⟩ := hv
    have hb_v2 : (0 ≤ (Int32.toInt v2) ∧ (Int32.toInt v2) ≤ 6) := hb_v2
    have hb_v5 : (0 ≤ (Int32.toInt v5) ∧ (Int32.toInt v5) ≤ 6) := hb_v5
    have hI : zI XT g := hI
    have k0_0 : g 0 13 = g0 0 13 := k0_0
    have ih6 : ∀ v' : Int32 × Int32 × (Nat → Nat → Int32) × (Nat → Nat → Int64), (((0 ≤ (Int32.toInt v2) ∧ (Int32.toInt v2) ≤ 6)) ∧ ((0 ≤ (Int32.toInt (v'.2.1)) ∧ (Int32.toInt (v'.2.1)) ≤ 6)) ∧ (zI XT (v'.2.2.1)) ∧ ((v'.2.2.1) 0 13 = g0 0 13)) → 7 - (Int32.toInt (v'.2.1)) < 7 - (Int32.toInt v5) → 0 < 7 - (Int32.toInt v5) → Ex (k6 v') (fun (r : Int32) (g1 : Nat → Nat → Int32) (L1 : Nat → Nat → Int64) => zI XT g1 ∧ g1 0 13 = g0 0 13) := ih6
    show Ex (fX1_comingOf_8_s6 fu v1 v2 k6 v4 v5 g L) (fun (r : Int32) (g1 : Nat → Nat → Int32) (L1 : Nat → Nat → Int64) => zI XT g1 ∧ g1 0 13 = g0 0 13)
    unfold fX1_comingOf_8_s6
    refine Ex.ite (fun c1 => ?_) (fun c1 => ?_)
    ·
      have c1 := icc_le (m := (Int32.toInt v2)) (n := (Int32.toInt v5)) rfl rfl c1
      exact Ex.ret ⟨hI, k0_0⟩
    ·
      have c1 := icc_nle (m := (Int32.toInt v2)) (n := (Int32.toInt v5)) rfl rfl c1
      have lp18 : ∀ (v6 : Int32) (v7 : Int32) (g : Nat → Nat → Int32) (L : Nat → Nat → Int64), (1 ≤ (Int32.toInt v2) ∧ (Int32.toInt v2) ≤ 6) → (0 ≤ (Int32.toInt v5) ∧ (Int32.toInt v5) ≤ 5) → (0 ≤ (Int32.toInt v7) ∧ (Int32.toInt v7) ≤ 6) → zI XT g → g 0 13 = g0 0 13 → Ex (fX1_comingOf_8_l18 fu k6 v1 v2 v4 v5 v6 v7 g L) (fun (r : Int32) (g1 : Nat → Nat → Int32) (L1 : Nat → Nat → Int64) => zI XT g1 ∧ g1 0 13 = g0 0 13) := by
        intro v6 v7 g L hb_v2 hb_v5 hb_v7 hI k0_0
        unfold fX1_comingOf_8_l18
        refine Ex.loop (fun v => ((1 ≤ (Int32.toInt v2) ∧ (Int32.toInt v2) ≤ 6)) ∧ ((0 ≤ (Int32.toInt v5) ∧ (Int32.toInt v5) ≤ 5)) ∧ ((0 ≤ (Int32.toInt (v.2.1)) ∧ (Int32.toInt (v.2.1)) ≤ 6)) ∧ (zI XT (v.2.2.1)) ∧ ((v.2.2.1) 0 13 = g0 0 13)) (fun v => 7 - (Int32.toInt (v.2.1))) (by omega) (by show 7 - (Int32.toInt v7) < (fu : Int); omega) ⟨hb_v2, hb_v5, hb_v7, hI, k0_0⟩ (fun k18 v hv ih18 => ?_)
        obtain ⟨v6, v7, g, L⟩ := v
        obtain ⟨hb_v2, hb_v5, hb_v7, hI, k0_0⟩ := hv
        have hb_v2 : (1 ≤ (Int32.toInt v2) ∧ (Int32.toInt v2) ≤ 6) := hb_v2
        have hb_v5 : (0 ≤ (Int32.toInt v5) ∧ (Int32.toInt v5) ≤ 5) := hb_v5
        have hb_v7 : (0 ≤ (Int32.toInt v7) ∧ (Int32.toInt v7) ≤ 6) := hb_v7
        have hI : zI XT g := hI
        have k0_0 : g 0 13 = g0 0 13 := k0_0
        have ih18 : ∀ v' : Int32 × Int32 × (Nat → Nat → Int32) × (Nat → Nat → Int64), (((1 ≤ (Int32.toInt v2) ∧ (Int32.toInt v2) ≤ 6)) ∧ ((0 ≤ (Int32.toInt v5) ∧ (Int32.toInt v5) ≤ 5)) ∧ ((0 ≤ (Int32.toInt (v'.2.1)) ∧ (Int32.toInt (v'.2.1)) ≤ 6)) ∧ (zI XT (v'.2.2.1)) ∧ ((v'.2.2.1) 0 13 = g0 0 13)) → 7 - (Int32.toInt (v'.2.1)) < 7 - (Int32.toInt v7) → 0 < 7 - (Int32.toInt v7) → Ex (k18 v') (fun (r : Int32) (g1 : Nat → Nat → Int32) (L1 : Nat → Nat → Int64) => zI XT g1 ∧ g1 0 13 = g0 0 13) := ih18
        show Ex (fX1_comingOf_8_s18 fu k6 v1 v2 v4 v5 k18 v6 v7 g L) (fun (r : Int32) (g1 : Nat → Nat → Int32) (L1 : Nat → Nat → Int64) => zI XT g1 ∧ g1 0 13 = g0 0 13)
        unfold fX1_comingOf_8_s18
        refine Ex.ite (fun c2 => ?_) (fun c2 => ?_)
        ·
          have c2 := icc_le (m := (Int32.toInt v2)) (n := (Int32.toInt v7)) rfl rfl c2
          have J84 : ∀ (v4 : Int32) (g : Nat → Nat → Int32) (L : Nat → Nat → Int64), (1 ≤ (Int32.toInt v2) ∧ (Int32.toInt v2) ≤ 6) → (0 ≤ (Int32.toInt v5) ∧ (Int32.toInt v5) ≤ 5) → zI XT g → g 0 13 = g0 0 13 → Ex (fX1_comingOf_8_p84 fu k6 v1 v2 v4 v5 g L) (fun (r : Int32) (g1 : Nat → Nat → Int32) (L1 : Nat → Nat → Int64) => zI XT g1 ∧ g1 0 13 = g0 0 13) := by
            intro v4 g L hb_v2 hb_v5 hI k0_0
            unfold fX1_comingOf_8_p84
            generalize z3q : (v5 + 1) = z3
            have e4 : (Int32.toInt z3) = (Int32.toInt v5) + 1 := by rw [← z3q]; exact ic_addc rfl (by decide) (by omega) (by omega)
            exact ih6 (v4, z3, g, L) ⟨(show (0 ≤ (Int32.toInt v2) ∧ (Int32.toInt v2) ≤ 6) from by omega), (show (0 ≤ (Int32.toInt z3) ∧ (Int32.toInt z3) ≤ 6) from by omega), hI, k0_0⟩ (by show 7 - (Int32.toInt z3) < _; omega) (by omega)
          refine Ex.ite (fun c5 => ?_) (fun c5 => ?_)
          ·
            have c5 := icc_lt (m := (Int32.toInt v6)) (n := (Int32.toInt v1)) rfl rfl c5
            exact J84 v4 g L (by omega) (by omega) hI k0_0
          ·
            have c5 := icc_nlt (m := (Int32.toInt v6)) (n := (Int32.toInt v1)) rfl rfl c5
            refine Ex.ck (by omega) (by omega) ?_
            refine Ex.ite (fun c6 => ?_) (fun c6 => ?_)
            ·
              have c6 := icc_le (m := (Int32.toInt v4)) (n := (Int32.toInt (g 47 (Int32.toNatClampNeg v5)))) rfl rfl c6
              exact J84 v4 g L (by omega) (by omega) hI k0_0
            ·
              have c6 := icc_nle (m := (Int32.toInt v4)) (n := (Int32.toInt (g 47 (Int32.toNatClampNeg v5)))) rfl rfl c6
              refine Ex.ck (by omega) (by omega) ?_
              refine Ex.lti (fun x7 x7e x7i => ?_)
              exact J84 x7 g L (by omega) (by omega) hI k0_0
        ·
          have c2 := icc_nle (m := (Int32.toInt v2)) (n := (Int32.toInt v7)) rfl rfl c2
          refine Ex.ck (by omega) (by omega) ?_
          refine Ex.ck (by omega) (by omega) ?_
          have J48 : ∀ (t0 : Int32) (t1 : Int32) (g : Nat → Nat → Int32) (L : Nat → Nat → Int64), (1 ≤ (Int32.toInt v2) ∧ (Int32.toInt v2) ≤ 6) → (0 ≤ (Int32.toInt v5) ∧ (Int32.toInt v5) ≤ 5) → (0 ≤ (Int32.toInt v7) ∧ (Int32.toInt v7) ≤ 5) → (0 ≤ (Int32.toInt t0) ∧ (Int32.toInt t0) ≤ 1) → zI XT g → g 0 13 = g0 0 13 → Ex (fX1_comingOf_8_p48 fu k6 k18 v1 v2 v4 v5 v7 t0 t1 g L) (fun (r : Int32) (g1 : Nat → Nat → Int32) (L1 : Nat → Nat → Int64) => zI XT g1 ∧ g1 0 13 = g0 0 13) := by
            intro t0 t1 g L hb_v2 hb_v5 hb_v7 hb_t0 hI k0_0
            unfold fX1_comingOf_8_p48
            generalize z8q : (t1 + t0) = z8
            refine Ex.lti (fun x9 x9e x9i => ?_)
            generalize z10q : (v7 + 1) = z10
            have e11 : (Int32.toInt z10) = (Int32.toInt v7) + 1 := by rw [← z10q]; exact ic_addc rfl (by decide) (by omega) (by omega)
            exact ih18 (x9, z10, g, L) ⟨(show (1 ≤ (Int32.toInt v2) ∧ (Int32.toInt v2) ≤ 6) from by omega), (show (0 ≤ (Int32.toInt v5) ∧ (Int32.toInt v5) ≤ 5) from by omega), (show (0 ≤ (Int32.toInt z10) ∧ (Int32.toInt z10) ≤ 6) from by omega), hI, k0_0⟩ (by show 7 - (Int32.toInt z10) < _; omega) (by omega)
          refine Ex.ite (fun c12 => ?_) (fun c12 => ?_)
          ·
            have c12 := icc_lt (m := (Int32.toInt (g 47 (Int32.toNatClampNeg v5)))) (n := (Int32.toInt (g 47 (Int32.toNatClampNeg v7)))) rfl rfl c12
            exact J48 0 v6 g L (by omega) (by omega) (by omega) (by decide) hI k0_0
          ·
            have c12 := icc_nlt (m := (Int32.toInt (g 47 (Int32.toNatClampNeg v5)))) (n := (Int32.toInt (g 47 (Int32.toNatClampNeg v7)))) rfl rfl c12
            exact J48 1 v6 g L (by omega) (by omega) (by omega) (by decide) hI k0_0
      exact lp18 0 0 g L (by omega) (by omega) (by decide) hI k0_0
  exact lp6 p1 p2 p3 0 g0 L0 (by omega) (by decide) hI k0_0
set_option maxHeartbeats 4000000 in
set_option maxRecDepth 100000 in
theorem sX1_way_8 (fu : Nat) (hfu : 1180591620717411303424 ≤ fu) (p1 : Int32) (p2 : Int32) (g0 : Nat → Nat → Int32) (L0 : Nat → Nat → Int64) (hI : zI XT g0) (hp1 : (0 ≤ (Int32.toInt p1) ∧ (Int32.toInt p1) ≤ 11)) (hp2 : (0 ≤ (Int32.toInt p2) ∧ (Int32.toInt p2) ≤ 11)) : Ex (fX1_way_8 fu p1 p2 g0 L0) (fun (r : Int32) (g1 : Nat → Nat → Int32) (L1 : Nat → Nat → Int64) => zI XT g1 ∧ g1 12 5 = g0 12 5 ∧ g1 0 13 = g0 0 13) := by
  have k0_0 : g0 12 5 = g0 12 5 := rfl
  have k0_1 : g0 0 13 = g0 0 13 := rfl
  unfold fX1_way_8
  refine Ex.ck (by omega) (by omega) ?_
  refine Ex.ck (by omega) (by omega) ?_
  generalize z1q : ((g0 27 (Int32.toNatClampNeg p1)) - (g0 27 (Int32.toNatClampNeg p2))) = z1
  generalize z2q : (if 0 ≤ z1 then z1 else 0 - z1) = z2
  generalize z3q : ((g0 1 3) * z2) = z3
  refine Ex.lti (fun x4 x4e x4i => ?_)
  refine Ex.cb (sX1_isUpstairs_8 fu hfu p1 g0 L0 hI (by omega)) (fun x5 g6 L7 hq9 => ?_)
  obtain ⟨hI, kk0, kk1, rb_⟩ := hq9
  have b10 : 0 ≤ (Int32.toInt x5) ∧ (Int32.toInt x5) ≤ 1 := rb_
  have hI : zI XT g6 := hI
  have k0_0 : g6 12 5 = g0 12 5 := kk0.trans k0_0
  have k0_1 : g6 0 13 = g0 0 13 := kk1.trans k0_1
  refine Ex.cb (sX1_isUpstairs_8 fu hfu p2 g6 L7 hI (by omega)) (fun x11 g12 L13 hq15 => ?_)
  obtain ⟨hI, kk0, kk1, rb_⟩ := hq15
  have b16 : 0 ≤ (Int32.toInt x11) ∧ (Int32.toInt x11) ≤ 1 := rb_
  have hI : zI XT g12 := hI
  have k0_0 : g12 12 5 = g0 12 5 := kk0.trans k0_0
  have k0_1 : g12 0 13 = g0 0 13 := kk1.trans k0_1
  have J55 : ∀ (v3 : Int32) (g : Nat → Nat → Int32) (L : Nat → Nat → Int64), zI XT g → g 12 5 = g0 12 5 → g 0 13 = g0 0 13 → Ex (fX1_way_8_p55 fu v3 g L) (fun (r : Int32) (g1 : Nat → Nat → Int32) (L1 : Nat → Nat → Int64) => zI XT g1 ∧ g1 12 5 = g0 12 5 ∧ g1 0 13 = g0 0 13) := by
    intro v3 g L hI k0_0 k0_1
    unfold fX1_way_8_p55
    exact Ex.ret ⟨hI, k0_0, k0_1⟩
  refine Ex.ite (fun c17 => ?_) (fun c17 => ?_)
  ·
    have c17 := icc_eq (m := (Int32.toInt x5)) (n := (Int32.toInt x11)) rfl rfl c17
    exact J55 x4 g12 L13 hI k0_0 k0_1
  ·
    have c17 := icc_neq (m := (Int32.toInt x5)) (n := (Int32.toInt x11)) rfl rfl c17
    refine Ex.ite (fun c18 => ?_) (fun c18 => ?_)
    ·
      have c18 := icc_le (m := 1) (n := (Int32.toInt (g12 1 4))) (by decide) rfl c18
      refine Ex.ck (by omega) (by omega) ?_
      refine Ex.ltn (fun q19 q19e => ?_)
      have q19b : 57 ≤ q19 ∧ q19 < 69 := by have := Nat.mod_lt (Int32.toNatClampNeg p1) (show 12 > 0 by decide); omega
      generalize z20q : ((g12 q19 8) + (g12 1 4)) = z20
      generalize z21q : (z20 - 1) = z21
      refine Ex.cnz (fun h_ => absurd (icc_eq (n := 0) rfl (by decide) h_) (by omega)) ?_
      generalize z22q : (z21 / (g12 1 4)) = z22
      generalize z23q : (x4 + z22) = z23
      exact Ex.ret ⟨hI, k0_0, k0_1⟩
    ·
      have c18 := icc_nle (m := 1) (n := (Int32.toInt (g12 1 4))) (by decide) rfl c18
      exact J55 x4 g12 L13 hI k0_0 k0_1
set_option maxHeartbeats 4000000 in
set_option maxRecDepth 100000 in
theorem sX1_firstComingAt_8_les (fu : Nat) (hfu : 1180591620717411303424 ≤ fu) (p1 : Int32) (q1_ : Nat) (g0 : Nat → Nat → Int32) (L0 : Nat → Nat → Int64) (hI : zI XT g0) (q1_l : 57 ≤ q1_) (q1_h : q1_ < 81) : Ex (fX1_firstComingAt_8_les fu p1 q1_ g0 L0) (fun (r : Int32) (g1 : Nat → Nat → Int32) (L1 : Nat → Nat → Int64) => zI XT g1 ∧ g1 0 13 = g0 0 13 ∧ ((-1) ≤ (Int32.toInt r) ∧ (Int32.toInt r) ≤ 11)) := by
  have k0_0 : g0 0 13 = g0 0 13 := rfl
  unfold fX1_firstComingAt_8_les
  have lp2 : ∀ (v1 : Int32) (q2_ : Nat) (v3 : Int32) (g : Nat → Nat → Int32) (L : Nat → Nat → Int64), 57 ≤ q2_ → q2_ < 81 → (0 ≤ (Int32.toInt v3) ∧ (Int32.toInt v3) ≤ 6) → zI XT g → g 0 13 = g0 0 13 → Ex (fX1_firstComingAt_8_les_l2 fu v1 q2_ v3 g L) (fun (r : Int32) (g1 : Nat → Nat → Int32) (L1 : Nat → Nat → Int64) => zI XT g1 ∧ g1 0 13 = g0 0 13 ∧ ((-1) ≤ (Int32.toInt r) ∧ (Int32.toInt r) ≤ 11)) := by
    intro v1 q2_ v3 g L q2_l q2_h hb_v3 hI k0_0
    unfold fX1_firstComingAt_8_les_l2
    refine Ex.loop (fun v => (57 ≤ q2_) ∧ (q2_ < 81) ∧ ((0 ≤ (Int32.toInt (v.1)) ∧ (Int32.toInt (v.1)) ≤ 6)) ∧ (zI XT (v.2.1)) ∧ ((v.2.1) 0 13 = g0 0 13)) (fun v => 7 - (Int32.toInt (v.1))) (by omega) (by show 7 - (Int32.toInt v3) < (fu : Int); omega) ⟨q2_l, q2_h, hb_v3, hI, k0_0⟩ (fun k2 v hv ih2 => ?_)
    obtain ⟨v3, g, L⟩ := v
    obtain ⟨q2_l, q2_h, hb_v3, hI, k0_0⟩ := hv
    have q2_l : 57 ≤ q2_ := q2_l
    have q2_h : q2_ < 81 := q2_h
    have hb_v3 : (0 ≤ (Int32.toInt v3) ∧ (Int32.toInt v3) ≤ 6) := hb_v3
    have hI : zI XT g := hI
    have k0_0 : g 0 13 = g0 0 13 := k0_0
    have ih2 : ∀ v' : Int32 × (Nat → Nat → Int32) × (Nat → Nat → Int64), ((57 ≤ q2_) ∧ (q2_ < 81) ∧ ((0 ≤ (Int32.toInt (v'.1)) ∧ (Int32.toInt (v'.1)) ≤ 6)) ∧ (zI XT (v'.2.1)) ∧ ((v'.2.1) 0 13 = g0 0 13)) → 7 - (Int32.toInt (v'.1)) < 7 - (Int32.toInt v3) → 0 < 7 - (Int32.toInt v3) → Ex (k2 v') (fun (r : Int32) (g1 : Nat → Nat → Int32) (L1 : Nat → Nat → Int64) => zI XT g1 ∧ g1 0 13 = g0 0 13 ∧ ((-1) ≤ (Int32.toInt r) ∧ (Int32.toInt r) ≤ 11)) := ih2
    show Ex (fX1_firstComingAt_8_les_s2 fu v1 q2_ k2 v3 g L) (fun (r : Int32) (g1 : Nat → Nat → Int32) (L1 : Nat → Nat → Int64) => zI XT g1 ∧ g1 0 13 = g0 0 13 ∧ ((-1) ≤ (Int32.toInt r) ∧ (Int32.toInt r) ≤ 11))
    unfold fX1_firstComingAt_8_les_s2
    have b1 : 0 ≤ (Int32.toInt (g q2_ 1)) ∧ (Int32.toInt (g q2_ 1)) ≤ 6 := hI q2_ 1 0 6 (xt_les (by omega) (by omega))
    refine Ex.ite (fun c2 => ?_) (fun c2 => ?_)
    ·
      have c2 := icc_le (m := (Int32.toInt (g q2_ 1))) (n := (Int32.toInt v3)) rfl rfl c2
      exact Ex.ret ⟨hI, k0_0, (by decide)⟩
    ·
      have c2 := icc_nle (m := (Int32.toInt (g q2_ 1))) (n := (Int32.toInt v3)) rfl rfl c2
      refine Ex.ck (by omega) (by omega) ?_
      refine Ex.ite (fun c3 => ?_) (fun c3 => ?_)
      ·
        have c3 := icc_eq (m := (Int32.toInt (g 47 (Int32.toNatClampNeg v3)))) (n := (Int32.toInt v1)) rfl rfl c3
        refine Ex.ck (by omega) (by omega) ?_
        have b4 : 0 ≤ (Int32.toInt (g (q2_ + 24) (Int32.toNatClampNeg v3))) ∧ (Int32.toInt (g (q2_ + 24) (Int32.toNatClampNeg v3))) ≤ 11 := hI (q2_ + 24) _ 0 11 (xt_wai (by omega))
        exact Ex.ret ⟨hI, k0_0, (by omega)⟩
      ·
        have c3 := icc_neq (m := (Int32.toInt (g 47 (Int32.toNatClampNeg v3)))) (n := (Int32.toInt v1)) rfl rfl c3
        generalize z5q : (v3 + 1) = z5
        have e6 : (Int32.toInt z5) = (Int32.toInt v3) + 1 := by rw [← z5q]; exact ic_addc rfl (by decide) (by omega) (by omega)
        exact ih2 (z5, g, L) ⟨(show 57 ≤ q2_ from by omega), (show q2_ < 81 from by omega), (show (0 ≤ (Int32.toInt z5) ∧ (Int32.toInt z5) ≤ 6) from by omega), hI, k0_0⟩ (by show 7 - (Int32.toInt z5) < _; omega) (by omega)
  exact lp2 p1 q1_ 0 g0 L0 (by omega) (by omega) (by decide) hI k0_0
set_option maxHeartbeats 4000000 in
set_option maxRecDepth 100000 in
theorem sX1_begin_8_les (fu : Nat) (hfu : 1180591620717411303424 ≤ fu) (p1 : Int32) (q1_ : Nat) (g0 : Nat → Nat → Int32) (L0 : Nat → Nat → Int64) (hI : zI XT g0) (hp1 : (0 ≤ (Int32.toInt p1) ∧ (Int32.toInt p1) ≤ 11)) (q1_l : 57 ≤ q1_) (q1_h : q1_ < 81) : Ex (fX1_begin_8_les fu p1 q1_ g0 L0) (fun (r : Unit) (g1 : Nat → Nat → Int32) (L1 : Nat → Nat → Int64) => zI XT g1 ∧ g1 0 13 = g0 0 13) := by
  have k0_0 : g0 0 13 = g0 0 13 := rfl
  unfold fX1_begin_8_les
  refine Ex.ck (by omega) (by omega) ?_
  refine Ex.sti (hI.updN rfl) (fun g1 g1e hI => ?_)
  have k0_0 : g1 0 13 = g0 0 13 := by rw [g1e]; exact k0_0
  refine Ex.ck (by omega) (by omega) ?_
  refine Ex.sti (hI.upd rfl (by decide) (by decide)) (fun g2 g2e hI => ?_)
  have k0_0 : g2 0 13 = g0 0 13 := by rw [g2e]; exact k0_0
  refine Ex.lti (fun x3 x3e x3i => ?_)
  have lp25 : ∀ (v1 : Int32) (q2_ : Nat) (v3 : Int32) (v4 : Int32) (g : Nat → Nat → Int32) (L : Nat → Nat → Int64), (0 ≤ (Int32.toInt v1) ∧ (Int32.toInt v1) ≤ 11) → 57 ≤ q2_ → q2_ < 81 → (0 ≤ (Int32.toInt v4) ∧ (Int32.toInt v4) ≤ 6) → zI XT g → g 0 13 = g0 0 13 → Ex (fX1_begin_8_les_l25 fu v1 q2_ v3 v4 g L) (fun (r : Unit) (g1 : Nat → Nat → Int32) (L1 : Nat → Nat → Int64) => zI XT g1 ∧ g1 0 13 = g0 0 13) := by
    intro v1 q2_ v3 v4 g L hb_v1 q2_l q2_h hb_v4 hI k0_0
    unfold fX1_begin_8_les_l25
    refine Ex.loop (fun v => ((0 ≤ (Int32.toInt v1) ∧ (Int32.toInt v1) ≤ 11)) ∧ (57 ≤ q2_) ∧ (q2_ < 81) ∧ ((0 ≤ (Int32.toInt (v.2.1)) ∧ (Int32.toInt (v.2.1)) ≤ 6)) ∧ (zI XT (v.2.2.1)) ∧ ((v.2.2.1) 0 13 = g0 0 13)) (fun v => 7 - (Int32.toInt (v.2.1))) (by omega) (by show 7 - (Int32.toInt v4) < (fu : Int); omega) ⟨hb_v1, q2_l, q2_h, hb_v4, hI, k0_0⟩ (fun k25 v hv ih25 => ?_)
    obtain ⟨v3, v4, g, L⟩ := v
    obtain ⟨hb_v1, q2_l, q2_h, hb_v4, hI, k0_0⟩ := hv
    have hb_v1 : (0 ≤ (Int32.toInt v1) ∧ (Int32.toInt v1) ≤ 11) := hb_v1
    have q2_l : 57 ≤ q2_ := q2_l
    have q2_h : q2_ < 81 := q2_h
    have hb_v4 : (0 ≤ (Int32.toInt v4) ∧ (Int32.toInt v4) ≤ 6) := hb_v4
    have hI : zI XT g := hI
    have k0_0 : g 0 13 = g0 0 13 := k0_0
    have ih25 : ∀ v' : Int32 × Int32 × (Nat → Nat → Int32) × (Nat → Nat → Int64), (((0 ≤ (Int32.toInt v1) ∧ (Int32.toInt v1) ≤ 11)) ∧ (57 ≤ q2_) ∧ (q2_ < 81) ∧ ((0 ≤ (Int32.toInt (v'.2.1)) ∧ (Int32.toInt (v'.2.1)) ≤ 6)) ∧ (zI XT (v'.2.2.1)) ∧ ((v'.2.2.1) 0 13 = g0 0 13)) → 7 - (Int32.toInt (v'.2.1)) < 7 - (Int32.toInt v4) → 0 < 7 - (Int32.toInt v4) → Ex (k25 v') (fun (r : Unit) (g1 : Nat → Nat → Int32) (L1 : Nat → Nat → Int64) => zI XT g1 ∧ g1 0 13 = g0 0 13) := ih25
    show Ex (fX1_begin_8_les_s25 fu v1 q2_ k25 v3 v4 g L) (fun (r : Unit) (g1 : Nat → Nat → Int32) (L1 : Nat → Nat → Int64) => zI XT g1 ∧ g1 0 13 = g0 0 13)
    unfold fX1_begin_8_les_s25
    have b4 : 0 ≤ (Int32.toInt (g q2_ 1)) ∧ (Int32.toInt (g q2_ 1)) ≤ 6 := hI q2_ 1 0 6 (xt_les (by omega) (by omega))
    refine Ex.ite (fun c5 => ?_) (fun c5 => ?_)
    ·
      have c5 := icc_le (m := (Int32.toInt (g q2_ 1))) (n := (Int32.toInt v4)) rfl rfl c5
      have J115 : ∀ (v1 : Int32) (q2_ : Nat) (v3 : Int32) (g : Nat → Nat → Int32) (L : Nat → Nat → Int64), (0 ≤ (Int32.toInt v1) ∧ (Int32.toInt v1) ≤ 11) → 57 ≤ q2_ → q2_ < 81 → zI XT g → g 0 13 = g0 0 13 → Ex (fX1_begin_8_les_p115 fu v1 q2_ v3 g L) (fun (r : Unit) (g1 : Nat → Nat → Int32) (L1 : Nat → Nat → Int64) => zI XT g1 ∧ g1 0 13 = g0 0 13) := by
        intro v1 q2_ v3 g L hb_v1 q2_l q2_h hI k0_0
        unfold fX1_begin_8_les_p115
        refine Ex.ite (fun c6 => ?_) (fun c6 => ?_)
        ·
          have c6 := icc_lt (m := (Int32.toInt (g q2_ 3))) (n := (Int32.toInt v3)) rfl rfl c6
          refine Ex.ck (by omega) (by omega) ?_
          generalize z7q : ((g q2_ 3) + (g 28 (Int32.toNatClampNeg v1))) = z7
          refine Ex.lti (fun x8 x8e x8i => ?_)
          refine Ex.ite (fun c9 => ?_) (fun c9 => ?_)
          ·
            have c9 := icc_le (m := (Int32.toInt v3)) (n := (Int32.toInt x8)) rfl rfl c9
            refine Ex.ck (by omega) (by omega) ?_
            refine Ex.sti (hI.updN rfl) (fun g10 g10e hI => ?_)
            have k0_0 : g10 0 13 = g0 0 13 := by rw [g10e]; exact k0_0
            refine Ex.cb (sX1_firstComingAt_8_les fu hfu v3 q2_ g10 L hI (by omega) (by omega)) (fun x11 g12 L13 hq15 => ?_)
            obtain ⟨hI, kk0, rb_⟩ := hq15
            have b16 : (-1) ≤ (Int32.toInt x11) ∧ (Int32.toInt x11) ≤ 11 := rb_
            have hI : zI XT g12 := hI
            have k0_0 : g12 0 13 = g0 0 13 := kk0.trans k0_0
            refine Ex.ck (by omega) (by omega) ?_
            refine Ex.sti (hI.upd rfl (by omega) (by omega)) (fun g17 g17e hI => ?_)
            have k0_0 : g17 0 13 = g0 0 13 := by rw [g17e]; exact k0_0
            exact Ex.ret ⟨hI, k0_0⟩
          ·
            have c9 := icc_nle (m := (Int32.toInt v3)) (n := (Int32.toInt x8)) rfl rfl c9
            refine Ex.ck (by omega) (by omega) ?_
            refine Ex.sti (hI.updN rfl) (fun g18 g18e hI => ?_)
            have k0_0 : g18 0 13 = g0 0 13 := by rw [g18e]; exact k0_0
            exact Ex.ret ⟨hI, k0_0⟩
        ·
          have c6 := icc_nlt (m := (Int32.toInt (g q2_ 3))) (n := (Int32.toInt v3)) rfl rfl c6
          exact Ex.ret ⟨hI, k0_0⟩
      refine Ex.ite (fun c19 => ?_) (fun c19 => ?_)
      ·
        have c19 := icc_eq (m := (Int32.toInt (g q2_ 9))) (n := 1) rfl (by decide) c19
        refine Ex.cb (sX1_comingOf_8 fu hfu (g q2_ 10) (g q2_ 1) v3 g L hI (by omega)) (fun x20 g21 L22 hq24 => ?_)
        obtain ⟨hI, kk0⟩ := hq24
        have hI : zI XT g21 := hI
        have k0_0 : g21 0 13 = g0 0 13 := kk0.trans k0_0
        exact J115 v1 q2_ x20 g21 L22 (by omega) (by omega) (by omega) hI k0_0
      ·
        have c19 := icc_neq (m := (Int32.toInt (g q2_ 9))) (n := 1) rfl (by decide) c19
        exact J115 v1 q2_ v3 g L (by omega) (by omega) (by omega) hI k0_0
    ·
      have c5 := icc_nle (m := (Int32.toInt (g q2_ 1))) (n := (Int32.toInt v4)) rfl rfl c5
      refine Ex.ck (by omega) (by omega) ?_
      have b25 : 0 ≤ (Int32.toInt (g (q2_ + 24) (Int32.toNatClampNeg v4))) ∧ (Int32.toInt (g (q2_ + 24) (Int32.toNatClampNeg v4))) ≤ 11 := hI (q2_ + 24) _ 0 11 (xt_wai (by omega))
      refine Ex.lti (fun x26 x26e x26i => ?_)
      refine Ex.ck (by omega) (by omega) ?_
      refine Ex.cb (sX1_way_8 fu hfu x26 v1 g L hI (by omega) (by omega)) (fun x27 g28 L29 hq31 => ?_)
      obtain ⟨hI, kk0, kk1⟩ := hq31
      have hI : zI XT g28 := hI
      have k0_0 : g28 0 13 = g0 0 13 := kk1.trans k0_0
      generalize z32q : ((g 44 (Int32.toNatClampNeg x26)) + x27) = z32
      refine Ex.ck (by omega) (by omega) ?_
      generalize z33q : (z32 - (g28 26 (Int32.toNatClampNeg v1))) = z33
      refine Ex.ck (by omega) (by omega) ?_
      refine Ex.sti (hI.updN rfl) (fun g34 g34e hI => ?_)
      have k0_0 : g34 0 13 = g0 0 13 := by rw [g34e]; exact k0_0
      refine Ex.ck (by omega) (by omega) ?_
      generalize z35q : (if v3 < (g34 47 (Int32.toNatClampNeg v4)) then (g34 47 (Int32.toNatClampNeg v4)) else v3) = z35
      have b36 := ic_max (x := v3) (y := (g34 47 (Int32.toNatClampNeg v4))) (m := (Int32.toInt v3)) (n := (Int32.toInt (g34 47 (Int32.toNatClampNeg v4)))) rfl rfl
      rw [z35q] at b36
      refine Ex.lti (fun x37 x37e x37i => ?_)
      generalize z38q : (v4 + 1) = z38
      have e39 : (Int32.toInt z38) = (Int32.toInt v4) + 1 := by rw [← z38q]; exact ic_addc rfl (by decide) (by omega) (by omega)
      exact ih25 (x37, z38, g34, L29) ⟨(show (0 ≤ (Int32.toInt v1) ∧ (Int32.toInt v1) ≤ 11) from by omega), (show 57 ≤ q2_ from by omega), (show q2_ < 81 from by omega), (show (0 ≤ (Int32.toInt z38) ∧ (Int32.toInt z38) ≤ 6) from by omega), hI, k0_0⟩ (by show 7 - (Int32.toInt z38) < _; omega) (by omega)
  exact lp25 p1 q1_ x3 0 g2 L0 (by omega) (by omega) (by omega) (by decide) hI k0_0
set_option maxHeartbeats 4000000 in
set_option maxRecDepth 100000 in
theorem sX8_joined (fu : Nat) (hfu : 1180591620717411303424 ≤ fu) (p1 : Int32) (p2 : Int32) (p3 : Int32) (g0 : Nat → Nat → Int32) (L0 : Nat → Nat → Int64) (hI : zI XT g0) : Ex (fX8_joined fu p1 p2 p3 g0 L0) (fun (r : Int32) (g1 : Nat → Nat → Int32) (L1 : Nat → Nat → Int64) => zI XT g1 ∧ g1 0 13 = g0 0 13) := by
  have k0_0 : g0 0 13 = g0 0 13 := rfl
  unfold fX8_joined
  refine Ex.ite (fun c1 => ?_) (fun c1 => ?_)
  ·
    have J103 : ∀ (t0 : Int32) (g : Nat → Nat → Int32) (L : Nat → Nat → Int64), (0 ≤ (Int32.toInt t0) ∧ (Int32.toInt t0) ≤ 1) → zI XT g → g 0 13 = g0 0 13 → Ex (fX8_joined_p103 fu t0 g L) (fun (r : Int32) (g1 : Nat → Nat → Int32) (L1 : Nat → Nat → Int64) => zI XT g1 ∧ g1 0 13 = g0 0 13) := by
      intro t0 g L hb_t0 hI k0_0
      unfold fX8_joined_p103
      exact Ex.ret ⟨hI, k0_0⟩
    have J102 : ∀ (g : Nat → Nat → Int32) (L : Nat → Nat → Int64), zI XT g → g 0 13 = g0 0 13 → Ex (fX8_joined_p102 fu g L) (fun (r : Int32) (g1 : Nat → Nat → Int32) (L1 : Nat → Nat → Int64) => zI XT g1 ∧ g1 0 13 = g0 0 13) := by
      intro g L hI k0_0
      unfold fX8_joined_p102
      exact J103 0 g L (by decide) hI k0_0
    refine Ex.ite (fun c2 => ?_) (fun c2 => ?_)
    ·
      have c2 := icc_eq (m := (Int32.toInt p2)) (n := 0) rfl (by decide) c2
      exact J102 g0 L0 hI k0_0
    ·
      have c2 := icc_neq (m := (Int32.toInt p2)) (n := 0) rfl (by decide) c2
      refine Ex.ite (fun c3 => ?_) (fun c3 => ?_)
      ·
        have c3 := icc_eq (m := (Int32.toInt p3)) (n := 0) rfl (by decide) c3
        exact J102 g0 L0 hI k0_0
      ·
        have c3 := icc_neq (m := (Int32.toInt p3)) (n := 0) rfl (by decide) c3
        exact J103 1 g0 L0 (by decide) hI k0_0
  ·
    refine Ex.ite (fun c4 => ?_) (fun c4 => ?_)
    ·
      have J89 : ∀ (t0 : Int32) (g : Nat → Nat → Int32) (L : Nat → Nat → Int64), (0 ≤ (Int32.toInt t0) ∧ (Int32.toInt t0) ≤ 1) → zI XT g → g 0 13 = g0 0 13 → Ex (fX8_joined_p89 fu t0 g L) (fun (r : Int32) (g1 : Nat → Nat → Int32) (L1 : Nat → Nat → Int64) => zI XT g1 ∧ g1 0 13 = g0 0 13) := by
        intro t0 g L hb_t0 hI k0_0
        unfold fX8_joined_p89
        exact Ex.ret ⟨hI, k0_0⟩
      refine Ex.ite (fun c5 => ?_) (fun c5 => ?_)
      ·
        have c5 := icc_eq (m := (Int32.toInt p2)) (n := (Int32.toInt p3)) rfl rfl c5
        exact J89 1 g0 L0 (by decide) hI k0_0
      ·
        have c5 := icc_neq (m := (Int32.toInt p2)) (n := (Int32.toInt p3)) rfl rfl c5
        exact J89 0 g0 L0 (by decide) hI k0_0
    ·
      refine Ex.ite (fun c6 => ?_) (fun c6 => ?_)
      ·
        have J78 : ∀ (t0 : Int32) (g : Nat → Nat → Int32) (L : Nat → Nat → Int64), (0 ≤ (Int32.toInt t0) ∧ (Int32.toInt t0) ≤ 1) → zI XT g → g 0 13 = g0 0 13 → Ex (fX8_joined_p78 fu t0 g L) (fun (r : Int32) (g1 : Nat → Nat → Int32) (L1 : Nat → Nat → Int64) => zI XT g1 ∧ g1 0 13 = g0 0 13) := by
          intro t0 g L hb_t0 hI k0_0
          unfold fX8_joined_p78
          exact Ex.ret ⟨hI, k0_0⟩
        refine Ex.ite (fun c7 => ?_) (fun c7 => ?_)
        ·
          have c7 := icc_le (m := (Int32.toInt p3)) (n := (Int32.toInt p2)) rfl rfl c7
          exact J78 0 g0 L0 (by decide) hI k0_0
        ·
          have c7 := icc_nle (m := (Int32.toInt p3)) (n := (Int32.toInt p2)) rfl rfl c7
          exact J78 1 g0 L0 (by decide) hI k0_0
      ·
        refine Ex.ite (fun c8 => ?_) (fun c8 => ?_)
        ·
          have J67 : ∀ (t0 : Int32) (g : Nat → Nat → Int32) (L : Nat → Nat → Int64), zI XT g → g 0 13 = g0 0 13 → Ex (fX8_joined_p67 fu t0 g L) (fun (r : Int32) (g1 : Nat → Nat → Int32) (L1 : Nat → Nat → Int64) => zI XT g1 ∧ g1 0 13 = g0 0 13) := by
            intro t0 g L hI k0_0
            unfold fX8_joined_p67
            exact Ex.ret ⟨hI, k0_0⟩
          refine Ex.ite (fun c9 => ?_) (fun c9 => ?_)
          ·
            have c9 := icc_eq (m := (Int32.toInt p3)) (n := 0) rfl (by decide) c9
            exact J67 0 g0 L0 hI k0_0
          ·
            have c9 := icc_neq (m := (Int32.toInt p3)) (n := 0) rfl (by decide) c9
            refine Ex.cnz (fun h_ => absurd (icc_eq (n := 0) rfl (by decide) h_) (by omega)) ?_
            generalize z10q : (p2 / p3) = z10
            exact J67 z10 g0 L0 hI k0_0
        ·
          refine Ex.ite (fun c11 => ?_) (fun c11 => ?_)
          ·
            generalize z12q : (p2 * p3) = z12
            exact Ex.ret ⟨hI, k0_0⟩
          ·
            refine Ex.ite (fun c13 => ?_) (fun c13 => ?_)
            ·
              generalize z14q : (p2 - p3) = z14
              exact Ex.ret ⟨hI, k0_0⟩
            ·
              refine Ex.ite (fun c15 => ?_) (fun c15 => ?_)
              ·
                generalize z16q : (p2 + p3) = z16
                exact Ex.ret ⟨hI, k0_0⟩
              ·
                have J117 : ∀ (t0 : Int32) (g : Nat → Nat → Int32) (L : Nat → Nat → Int64), (0 ≤ (Int32.toInt t0) ∧ (Int32.toInt t0) ≤ 1) → zI XT g → g 0 13 = g0 0 13 → Ex (fX8_joined_p117 fu t0 g L) (fun (r : Int32) (g1 : Nat → Nat → Int32) (L1 : Nat → Nat → Int64) => zI XT g1 ∧ g1 0 13 = g0 0 13) := by
                  intro t0 g L hb_t0 hI k0_0
                  unfold fX8_joined_p117
                  exact Ex.ret ⟨hI, k0_0⟩
                have J112 : ∀ (g : Nat → Nat → Int32) (L : Nat → Nat → Int64), zI XT g → g 0 13 = g0 0 13 → Ex (fX8_joined_p112 fu g L) (fun (r : Int32) (g1 : Nat → Nat → Int32) (L1 : Nat → Nat → Int64) => zI XT g1 ∧ g1 0 13 = g0 0 13) := by
                  intro g L hI k0_0
                  unfold fX8_joined_p112
                  exact J117 1 g L (by decide) hI k0_0
                refine Ex.ite (fun c17 => ?_) (fun c17 => ?_)
                ·
                  have c17 := icc_eq (m := (Int32.toInt p2)) (n := 0) rfl (by decide) c17
                  refine Ex.ite (fun c18 => ?_) (fun c18 => ?_)
                  ·
                    have c18 := icc_eq (m := (Int32.toInt p3)) (n := 0) rfl (by decide) c18
                    exact J117 0 g0 L0 (by decide) hI k0_0
                  ·
                    have c18 := icc_neq (m := (Int32.toInt p3)) (n := 0) rfl (by decide) c18
                    exact J112 g0 L0 hI k0_0
                ·
                  have c17 := icc_neq (m := (Int32.toInt p2)) (n := 0) rfl (by decide) c17
                  exact J112 g0 L0 hI k0_0
set_option maxHeartbeats 4000000 in
set_option maxRecDepth 100000 in
theorem sX8_value_3_48 (fu : Nat) (hfu : 1180591620717411303424 ≤ fu) (p1 : Int32) (g0 : Nat → Nat → Int32) (L0 : Nat → Nat → Int64) (hI : zI XT g0) : Ex (fX8_value_3_48 fu p1 g0 L0) (fun (r : Int32) (g1 : Nat → Nat → Int32) (L1 : Nat → Nat → Int64) => zI XT g1 ∧ g1 0 13 = g0 0 13) := by
  have k0_0 : g0 0 13 = g0 0 13 := rfl
  unfold fX8_value_3_48
  have J12 : ∀ (g : Nat → Nat → Int32) (L : Nat → Nat → Int64), zI XT g → g 0 13 = g0 0 13 → Ex (fX8_value_3_48_p12 fu g L) (fun (r : Int32) (g1 : Nat → Nat → Int32) (L1 : Nat → Nat → Int64) => zI XT g1 ∧ g1 0 13 = g0 0 13) := by
    intro g L hI k0_0
    unfold fX8_value_3_48_p12
    exact Ex.ret ⟨hI, k0_0⟩
  refine Ex.ite (fun c1 => ?_) (fun c1 => ?_)
  ·
    have c1 := icc_lt (m := (Int32.toInt p1)) (n := 0) rfl (by decide) c1
    exact J12 g0 L0 hI k0_0
  ·
    have c1 := icc_nlt (m := (Int32.toInt p1)) (n := 0) rfl (by decide) c1
    have b2 : 0 ≤ (Int32.toInt (g0 3 3)) ∧ (Int32.toInt (g0 3 3)) ≤ 4 := hI 3 3 0 4 rfl
    refine Ex.ite (fun c3 => ?_) (fun c3 => ?_)
    ·
      have c3 := icc_lt (m := (Int32.toInt p1)) (n := (Int32.toInt (g0 3 3))) rfl rfl c3
      refine Ex.ck (by omega) (by omega) ?_
      have b4 : 0 ≤ (Int32.toInt (g0 20 (Int32.toNatClampNeg p1))) ∧ (Int32.toInt (g0 20 (Int32.toNatClampNeg p1))) ≤ 700 := hI 20 _ 0 700 rfl
      refine Ex.lti (fun x5 x5e x5i => ?_)
      have lp24 : ∀ (v1 : Int32) (v3 : Int32) (v4 : Int32) (g : Nat → Nat → Int32) (L : Nat → Nat → Int64), (0 ≤ (Int32.toInt v1) ∧ (Int32.toInt v1) ≤ 3) → (0 ≤ (Int32.toInt v3) ∧ (Int32.toInt v3) ≤ 64) → (0 ≤ (Int32.toInt v4) ∧ (Int32.toInt v4) ≤ 700) → zI XT g → g 0 13 = g0 0 13 → Ex (fX8_value_3_48_l24 fu v1 v3 v4 g L) (fun (r : Int32) (g1 : Nat → Nat → Int32) (L1 : Nat → Nat → Int64) => zI XT g1 ∧ g1 0 13 = g0 0 13) := by
        intro v1 v3 v4 g L hb_v1 hb_v3 hb_v4 hI k0_0
        unfold fX8_value_3_48_l24
        refine Ex.loop (fun v => ((0 ≤ (Int32.toInt v1) ∧ (Int32.toInt v1) ≤ 3)) ∧ ((0 ≤ (Int32.toInt (v.1)) ∧ (Int32.toInt (v.1)) ≤ 64)) ∧ ((0 ≤ (Int32.toInt (v.2.1)) ∧ (Int32.toInt (v.2.1)) ≤ 700)) ∧ (zI XT (v.2.2.1)) ∧ ((v.2.2.1) 0 13 = g0 0 13)) (fun v => 701 - (Int32.toInt (v.2.1))) (by omega) (by show 701 - (Int32.toInt v4) < (fu : Int); omega) ⟨hb_v1, hb_v3, hb_v4, hI, k0_0⟩ (fun k24 v hv ih24 => ?_)
        obtain ⟨v3, v4, g, L⟩ := v
        obtain ⟨hb_v1, hb_v3, hb_v4, hI, k0_0⟩ := hv
        have hb_v1 : (0 ≤ (Int32.toInt v1) ∧ (Int32.toInt v1) ≤ 3) := hb_v1
        have hb_v3 : (0 ≤ (Int32.toInt v3) ∧ (Int32.toInt v3) ≤ 64) := hb_v3
        have hb_v4 : (0 ≤ (Int32.toInt v4) ∧ (Int32.toInt v4) ≤ 700) := hb_v4
        have hI : zI XT g := hI
        have k0_0 : g 0 13 = g0 0 13 := k0_0
        have ih24 : ∀ v' : Int32 × Int32 × (Nat → Nat → Int32) × (Nat → Nat → Int64), (((0 ≤ (Int32.toInt v1) ∧ (Int32.toInt v1) ≤ 3)) ∧ ((0 ≤ (Int32.toInt (v'.1)) ∧ (Int32.toInt (v'.1)) ≤ 64)) ∧ ((0 ≤ (Int32.toInt (v'.2.1)) ∧ (Int32.toInt (v'.2.1)) ≤ 700)) ∧ (zI XT (v'.2.2.1)) ∧ ((v'.2.2.1) 0 13 = g0 0 13)) → 701 - (Int32.toInt (v'.2.1)) < 701 - (Int32.toInt v4) → 0 < 701 - (Int32.toInt v4) → Ex (k24 v') (fun (r : Int32) (g1 : Nat → Nat → Int32) (L1 : Nat → Nat → Int64) => zI XT g1 ∧ g1 0 13 = g0 0 13) := ih24
        show Ex (fX8_value_3_48_s24 fu v1 k24 v3 v4 g L) (fun (r : Int32) (g1 : Nat → Nat → Int32) (L1 : Nat → Nat → Int64) => zI XT g1 ∧ g1 0 13 = g0 0 13)
        unfold fX8_value_3_48_s24
        generalize z6q : (v1 + 1) = z6
        have e7 : (Int32.toInt z6) = (Int32.toInt v1) + 1 := by rw [← z6q]; exact ic_addc rfl (by decide) (by omega) (by omega)
        refine Ex.ck (by omega) (by omega) ?_
        have b8 : 0 ≤ (Int32.toInt (g 20 (Int32.toNatClampNeg z6))) ∧ (Int32.toInt (g 20 (Int32.toNatClampNeg z6))) ≤ 700 := hI 20 _ 0 700 rfl
        refine Ex.ite (fun c9 => ?_) (fun c9 => ?_)
        ·
          have c9 := icc_le (m := (Int32.toInt (g 20 (Int32.toNatClampNeg z6)))) (n := (Int32.toInt v4)) rfl rfl c9
          have J188 : ∀ (t0 : Int32) (g : Nat → Nat → Int32) (L : Nat → Nat → Int64), zI XT g → g 0 13 = g0 0 13 → Ex (fX8_value_3_48_p188 fu t0 g L) (fun (r : Int32) (g1 : Nat → Nat → Int32) (L1 : Nat → Nat → Int64) => zI XT g1 ∧ g1 0 13 = g0 0 13) := by
            intro t0 g L hI k0_0
            unfold fX8_value_3_48_p188
            exact Ex.ret ⟨hI, k0_0⟩
          refine Ex.ite (fun c10 => ?_) (fun c10 => ?_)
          ·
            have c10 := icc_eq (m := (Int32.toInt v3)) (n := 1) rfl (by decide) c10
            refine Ex.ck (by decide) (by decide) ?_
            exact J188 (g 21 (Int32.toNatClampNeg 0)) g L hI k0_0
          ·
            have c10 := icc_neq (m := (Int32.toInt v3)) (n := 1) rfl (by decide) c10
            exact J188 0 g L hI k0_0
        ·
          have c9 := icc_nle (m := (Int32.toInt (g 20 (Int32.toNatClampNeg z6)))) (n := (Int32.toInt v4)) rfl rfl c9
          refine Ex.ck (by omega) (by omega) ?_
          refine Ex.lti (fun x11 x11e x11i => ?_)
          have J167 : ∀ (v3 : Int32) (g : Nat → Nat → Int32) (L : Nat → Nat → Int64), (0 ≤ (Int32.toInt v1) ∧ (Int32.toInt v1) ≤ 3) → (1 ≤ (Int32.toInt v3) ∧ (Int32.toInt v3) ≤ 64) → (0 ≤ (Int32.toInt v4) ∧ (Int32.toInt v4) ≤ 699) → zI XT g → g 0 13 = g0 0 13 → Ex (fX8_value_3_48_p167 fu k24 v1 v3 v4 g L) (fun (r : Int32) (g1 : Nat → Nat → Int32) (L1 : Nat → Nat → Int64) => zI XT g1 ∧ g1 0 13 = g0 0 13) := by
            intro v3 g L hb_v1 hb_v3 hb_v4 hI k0_0
            unfold fX8_value_3_48_p167
            generalize z12q : (v4 + 1) = z12
            have e13 : (Int32.toInt z12) = (Int32.toInt v4) + 1 := by rw [← z12q]; exact ic_addc rfl (by decide) (by omega) (by omega)
            exact ih24 (v3, z12, g, L) ⟨(show (0 ≤ (Int32.toInt v1) ∧ (Int32.toInt v1) ≤ 3) from by omega), (show (0 ≤ (Int32.toInt v3) ∧ (Int32.toInt v3) ≤ 64) from by omega), (show (0 ≤ (Int32.toInt z12) ∧ (Int32.toInt z12) ≤ 700) from by omega), hI, k0_0⟩ (by show 701 - (Int32.toInt z12) < _; omega) (by omega)
          refine Ex.ite (fun c14 => ?_) (fun c14 => ?_)
          ·
            have c14 := icc_lt (m := (Int32.toInt x11)) (n := (-6)) rfl (by decide) c14
            refine Ex.ite (fun c15 => ?_) (fun c15 => ?_)
            ·
              have c15 := icc_eq (m := (Int32.toInt x11)) (n := (-15)) rfl (by decide) c15
              refine Ex.ite (fun c16 => ?_) (fun c16 => ?_)
              ·
                have c16 := icc_le (m := 1) (n := (Int32.toInt v3)) (by decide) rfl c16
                generalize z17q : (v3 - 1) = z17
                have e18 : (Int32.toInt z17) = (Int32.toInt v3) - 1 := by rw [← z17q]; exact ic_subc rfl (by decide) (by omega) (by omega)
                have e19 : (Int32.toInt z17) = (Int32.toInt v3) - 1 := by rw [← z17q]; exact ic_subc rfl (by decide) (by omega) (by omega)
                refine Ex.ck (by omega) (by omega) ?_
                have J126 : ∀ (t0 : Int32) (t1 : Int32) (g : Nat → Nat → Int32) (L : Nat → Nat → Int64), (0 ≤ (Int32.toInt v1) ∧ (Int32.toInt v1) ≤ 3) → (1 ≤ (Int32.toInt v3) ∧ (Int32.toInt v3) ≤ 64) → (0 ≤ (Int32.toInt v4) ∧ (Int32.toInt v4) ≤ 699) → (0 ≤ (Int32.toInt t0) ∧ (Int32.toInt t0) ≤ 1) → (0 ≤ (Int32.toInt t1) ∧ (Int32.toInt t1) ≤ 63) → zI XT g → g 0 13 = g0 0 13 → Ex (fX8_value_3_48_p126 fu k24 v1 v3 v4 t0 t1 g L) (fun (r : Int32) (g1 : Nat → Nat → Int32) (L1 : Nat → Nat → Int64) => zI XT g1 ∧ g1 0 13 = g0 0 13) := by
                  intro t0 t1 g L hb_v1 hb_v3 hb_v4 hb_t0 hb_t1 hI k0_0
                  unfold fX8_value_3_48_p126
                  refine Ex.ck (by omega) (by omega) ?_
                  refine Ex.sti (hI.updN rfl) (fun g20 g20e hI => ?_)
                  have k0_0 : g20 0 13 = g0 0 13 := by rw [g20e]; exact k0_0
                  exact J167 v3 g20 L (by omega) (by omega) (by omega) hI k0_0
                refine Ex.ite (fun c21 => ?_) (fun c21 => ?_)
                ·
                  have c21 := icc_eq (m := (Int32.toInt (g 21 (Int32.toNatClampNeg z17)))) (n := 0) rfl (by decide) c21
                  exact J126 1 z17 g L (by omega) (by omega) (by omega) (by decide) (by omega) hI k0_0
                ·
                  have c21 := icc_neq (m := (Int32.toInt (g 21 (Int32.toNatClampNeg z17)))) (n := 0) rfl (by decide) c21
                  exact J126 0 z17 g L (by omega) (by omega) (by omega) (by decide) (by omega) hI k0_0
              ·
                have c16 := icc_nle (m := 1) (n := (Int32.toInt v3)) (by decide) rfl c16
                exact Ex.ret ⟨hI, k0_0⟩
            ·
              have c15 := icc_neq (m := (Int32.toInt x11)) (n := (-15)) rfl (by decide) c15
              refine Ex.ite (fun c22 => ?_) (fun c22 => ?_)
              ·
                have c22 := icc_le (m := 2) (n := (Int32.toInt v3)) (by decide) rfl c22
                generalize z23q : (v3 + (-1)) = z23
                have e24 : (Int32.toInt z23) = (Int32.toInt v3) + (-1) := by rw [← z23q]; exact ic_addc rfl (by decide) (by omega) (by omega)
                generalize z25q : (z23 - 1) = z25
                have e26 : (Int32.toInt z25) = (Int32.toInt z23) - 1 := by rw [← z25q]; exact ic_subc rfl (by decide) (by omega) (by omega)
                have e27 : (Int32.toInt z25) = (Int32.toInt z23) - 1 := by rw [← z25q]; exact ic_subc rfl (by decide) (by omega) (by omega)
                refine Ex.ck (by omega) (by omega) ?_
                refine Ex.ck (by omega) (by omega) ?_
                refine Ex.cb (sX8_joined fu hfu x11 (g 21 (Int32.toNatClampNeg z25)) (g 21 (Int32.toNatClampNeg z23)) g L hI) (fun x28 g29 L30 hq32 => ?_)
                obtain ⟨hI, kk0⟩ := hq32
                have hI : zI XT g29 := hI
                have k0_0 : g29 0 13 = g0 0 13 := kk0.trans k0_0
                refine Ex.ck (by omega) (by omega) ?_
                refine Ex.sti (hI.updN rfl) (fun g33 g33e hI => ?_)
                have k0_0 : g33 0 13 = g0 0 13 := by rw [g33e]; exact k0_0
                exact J167 z23 g33 L30 (by omega) (by omega) (by omega) hI k0_0
              ·
                have c22 := icc_nle (m := 2) (n := (Int32.toInt v3)) (by decide) rfl c22
                exact Ex.ret ⟨hI, k0_0⟩
          ·
            have c14 := icc_nlt (m := (Int32.toInt x11)) (n := (-6)) rfl (by decide) c14
            refine Ex.ite (fun c34 => ?_) (fun c34 => ?_)
            ·
              have c34 := icc_lt (m := (Int32.toInt v3)) (n := 64) rfl (by decide) c34
              have J82 : ∀ (t0 : Int32) (t1 : Int32) (g : Nat → Nat → Int32) (L : Nat → Nat → Int64), (0 ≤ (Int32.toInt v1) ∧ (Int32.toInt v1) ≤ 3) → (0 ≤ (Int32.toInt v3) ∧ (Int32.toInt v3) ≤ 63) → (0 ≤ (Int32.toInt v4) ∧ (Int32.toInt v4) ≤ 699) → (0 ≤ (Int32.toInt t1) ∧ (Int32.toInt t1) ≤ 63) → zI XT g → g 0 13 = g0 0 13 → Ex (fX8_value_3_48_p82 fu k24 v1 v3 v4 t0 t1 g L) (fun (r : Int32) (g1 : Nat → Nat → Int32) (L1 : Nat → Nat → Int64) => zI XT g1 ∧ g1 0 13 = g0 0 13) := by
                intro t0 t1 g L hb_v1 hb_v3 hb_v4 hb_t1 hI k0_0
                unfold fX8_value_3_48_p82
                refine Ex.ck (by omega) (by omega) ?_
                refine Ex.sti (hI.updN rfl) (fun g35 g35e hI => ?_)
                have k0_0 : g35 0 13 = g0 0 13 := by rw [g35e]; exact k0_0
                generalize z36q : (v3 + 1) = z36
                have e37 : (Int32.toInt z36) = (Int32.toInt v3) + 1 := by rw [← z36q]; exact ic_addc rfl (by decide) (by omega) (by omega)
                exact J167 z36 g35 L (by omega) (by omega) (by omega) hI k0_0
              refine Ex.ite (fun c38 => ?_) (fun c38 => ?_)
              ·
                have c38 := icc_lt (m := (Int32.toInt x11)) (n := 0) rfl (by decide) c38
                generalize z39q : ((-1) - x11) = z39
                have e40 : (Int32.toInt z39) = (-1) - (Int32.toInt x11) := by rw [← z39q]; exact ic_subc (by decide) rfl (by omega) (by omega)
                refine Ex.ck (by omega) (by omega) ?_
                exact J82 (g 48 (Int32.toNatClampNeg z39)) v3 g L (by omega) (by omega) (by omega) (by omega) hI k0_0
              ·
                have c38 := icc_nlt (m := (Int32.toInt x11)) (n := 0) rfl (by decide) c38
                exact J82 x11 v3 g L (by omega) (by omega) (by omega) (by omega) hI k0_0
            ·
              have c34 := icc_nlt (m := (Int32.toInt v3)) (n := 64) rfl (by decide) c34
              exact Ex.ret ⟨hI, k0_0⟩
      exact lp24 p1 0 x5 g0 L0 (by omega) (by decide) (by omega) hI k0_0
    ·
      have c3 := icc_nlt (m := (Int32.toInt p1)) (n := (Int32.toInt (g0 3 3))) rfl rfl c3
      exact J12 g0 L0 hI k0_0
set_option maxHeartbeats 4000000 in
set_option maxRecDepth 100000 in
theorem sX1_overrun_8_les (fu : Nat) (hfu : 1180591620717411303424 ≤ fu) (p1 : Int32) (q1_ : Nat) (g0 : Nat → Nat → Int32) (L0 : Nat → Nat → Int64) (hI : zI XT g0) (hp1 : (0 ≤ (Int32.toInt p1) ∧ (Int32.toInt p1) ≤ 11)) (q1_l : 57 ≤ q1_) (q1_h : q1_ < 81) : Ex (fX1_overrun_8_les fu p1 q1_ g0 L0) (fun (r : Int32) (g1 : Nat → Nat → Int32) (L1 : Nat → Nat → Int64) => zI XT g1 ∧ g1 0 13 = g0 0 13 ∧ (0 ≤ (Int32.toInt r) ∧ (Int32.toInt r) ≤ 180)) := by
  have k0_0 : g0 0 13 = g0 0 13 := rfl
  unfold fX1_overrun_8_les
  generalize z1q : (((g0 8 8) : Int32) >>> ((p1 : Int32) &&& 31) : Int32) = z1
  generalize z2q : (z1 &&& 1) = z2
  have b3 : 0 ≤ (Int32.toInt z2) ∧ (Int32.toInt z2) ≤ 1 := by rw [← z2q]; exact ic_and1 _
  refine Ex.ite (fun c4 => ?_) (fun c4 => ?_)
  ·
    have c4 := icc_eq (m := (Int32.toInt z2)) (n := 0) rfl (by decide) c4
    exact Ex.ret ⟨hI, k0_0, (by decide)⟩
  ·
    have c4 := icc_neq (m := (Int32.toInt z2)) (n := 0) rfl (by decide) c4
    have J29 : ∀ (v1 : Int32) (q2_ : Nat) (t0 : Int32) (g : Nat → Nat → Int32) (L : Nat → Nat → Int64), (0 ≤ (Int32.toInt v1) ∧ (Int32.toInt v1) ≤ 11) → 57 ≤ q2_ → q2_ < 81 → (60 ≤ (Int32.toInt t0) ∧ (Int32.toInt t0) ≤ 180) → zI XT g → g 0 13 = g0 0 13 → Ex (fX1_overrun_8_les_p29 fu v1 q2_ t0 g L) (fun (r : Int32) (g1 : Nat → Nat → Int32) (L1 : Nat → Nat → Int64) => zI XT g1 ∧ g1 0 13 = g0 0 13 ∧ (0 ≤ (Int32.toInt r) ∧ (Int32.toInt r) ≤ 180)) := by
      intro v1 q2_ t0 g L hb_v1 q2_l q2_h hb_t0 hI k0_0
      unfold fX1_overrun_8_les_p29
      refine Ex.ck (by omega) (by omega) ?_
      refine Ex.lti (fun x5 x5e x5i => ?_)
      have J151 : ∀ (v3 : Int32) (v4 : Int32) (g : Nat → Nat → Int32) (L : Nat → Nat → Int64), (60 ≤ (Int32.toInt v3) ∧ (Int32.toInt v3) ≤ 180) → zI XT g → g 0 13 = g0 0 13 → Ex (fX1_overrun_8_les_p151 fu v3 v4 g L) (fun (r : Int32) (g1 : Nat → Nat → Int32) (L1 : Nat → Nat → Int64) => zI XT g1 ∧ g1 0 13 = g0 0 13 ∧ (0 ≤ (Int32.toInt r) ∧ (Int32.toInt r) ≤ 180)) := by
        intro v3 v4 g L hb_v3 hI k0_0
        unfold fX1_overrun_8_les_p151
        generalize z6q : (if v4 < v3 then v4 else v3) = z6
        have b7 := ic_min (x := v3) (y := v4) (m := (Int32.toInt v3)) (n := (Int32.toInt v4)) rfl rfl
        rw [z6q] at b7
        generalize z8q : (if 0 < z6 then z6 else 0) = z8
        have b9 := ic_max (x := 0) (y := z6) (m := 0) (n := (Int32.toInt z6)) (by decide) rfl
        rw [z8q] at b9
        exact Ex.ret ⟨hI, k0_0, (by omega)⟩
      refine Ex.ite (fun c10 => ?_) (fun c10 => ?_)
      ·
        have c10 := icc_eq (m := (Int32.toInt (g 6 11))) (n := (-1)) rfl (by decide) c10
        exact J151 t0 x5 g L (by omega) hI k0_0
      ·
        have c10 := icc_neq (m := (Int32.toInt (g 6 11))) (n := (-1)) rfl (by decide) c10
        refine Ex.ck (by omega) (by omega) ?_
        refine Ex.ck (by decide) (by decide) ?_
        refine Ex.sti (hI.updN rfl) (fun g11 g11e hI => ?_)
        have k0_0 : g11 0 13 = g0 0 13 := by rw [g11e]; exact k0_0
        refine Ex.ck (by omega) (by omega) ?_
        generalize z12q : ((g11 43 (Int32.toNatClampNeg v1)) - (g11 q2_ 3)) = z12
        refine Ex.ck (by decide) (by decide) ?_
        refine Ex.sti (hI.updN rfl) (fun g13 g13e hI => ?_)
        have k0_0 : g13 0 13 = g0 0 13 := by rw [g13e]; exact k0_0
        refine Ex.ck (by omega) (by omega) ?_
        refine Ex.ck (by decide) (by decide) ?_
        refine Ex.sti (hI.updN rfl) (fun g14 g14e hI => ?_)
        have k0_0 : g14 0 13 = g0 0 13 := by rw [g14e]; exact k0_0
        refine Ex.ck (by omega) (by omega) ?_
        refine Ex.ck (by decide) (by decide) ?_
        refine Ex.sti (hI.updN rfl) (fun g15 g15e hI => ?_)
        have k0_0 : g15 0 13 = g0 0 13 := by rw [g15e]; exact k0_0
        refine Ex.ck (by decide) (by decide) ?_
        refine Ex.sti (hI.updN rfl) (fun g16 g16e hI => ?_)
        have k0_0 : g16 0 13 = g0 0 13 := by rw [g16e]; exact k0_0
        refine Ex.ck (by decide) (by decide) ?_
        refine Ex.sti (hI.updN rfl) (fun g17 g17e hI => ?_)
        have k0_0 : g17 0 13 = g0 0 13 := by rw [g17e]; exact k0_0
        refine Ex.cb (sX8_value_3_48 fu hfu (g17 6 11) g17 L hI) (fun x18 g19 L20 hq22 => ?_)
        obtain ⟨hI, kk0⟩ := hq22
        have hI : zI XT g19 := hI
        have k0_0 : g19 0 13 = g0 0 13 := kk0.trans k0_0
        exact J151 t0 x18 g19 L20 (by omega) hI k0_0
    refine Ex.ite (fun c23 => ?_) (fun c23 => ?_)
    ·
      have c23 := icc_eq (m := (Int32.toInt p1)) (n := (Int32.toInt (g0 8 9))) rfl rfl c23
      exact J29 p1 q1_ 180 g0 L0 (by omega) (by omega) (by omega) (by decide) hI k0_0
    ·
      have c23 := icc_neq (m := (Int32.toInt p1)) (n := (Int32.toInt (g0 8 9))) rfl rfl c23
      exact J29 p1 q1_ 60 g0 L0 (by omega) (by omega) (by omega) (by decide) hI k0_0
set_option maxHeartbeats 4000000 in
set_option maxRecDepth 100000 in
theorem sX1_runOne_8 (fu : Nat) (hfu : 1180591620717411303424 ≤ fu) (p1 : Int32) (g0 : Nat → Nat → Int32) (L0 : Nat → Nat → Int64) (hI : zI XT g0) (hp1 : (0 ≤ (Int32.toInt p1) ∧ (Int32.toInt p1) ≤ 11)) : Ex (fX1_runOne_8 fu p1 g0 L0) (fun (r : Unit) (g1 : Nat → Nat → Int32) (L1 : Nat → Nat → Int64) => zI XT g1 ∧ g1 0 13 = g0 0 13) := by
  have k0_0 : g0 0 13 = g0 0 13 := rfl
  unfold fX1_runOne_8
  refine Ex.ck (by omega) (by omega) ?_
  refine Ex.ltn (fun q1 q1e => ?_)
  have q1b : 57 ≤ q1 ∧ q1 < 69 := by have := Nat.mod_lt (Int32.toNatClampNeg p1) (show 12 > 0 by decide); omega
  refine Ex.cb (sX1_begin_8_les fu hfu p1 q1 g0 L0 hI (by omega) (by omega) (by omega)) (fun x2 g3 L4 hq6 => ?_)
  obtain ⟨hI, kk0⟩ := hq6
  have hI : zI XT g3 := hI
  have k0_0 : g3 0 13 = g0 0 13 := kk0.trans k0_0
  refine Ex.cb (sX1_overrun_8_les fu hfu p1 q1 g3 L4 hI (by omega) (by omega) (by omega)) (fun x7 g8 L9 hq11 => ?_)
  obtain ⟨hI, kk0, rb_⟩ := hq11
  have b12 : 0 ≤ (Int32.toInt x7) ∧ (Int32.toInt x7) ≤ 180 := rb_
  have hI : zI XT g8 := hI
  have k0_0 : g8 0 13 = g0 0 13 := kk0.trans k0_0
  refine Ex.ck (by omega) (by omega) ?_
  refine Ex.sti (hI.updN rfl) (fun g13 g13e hI => ?_)
  have k0_0 : g13 0 13 = g0 0 13 := by rw [g13e]; exact k0_0
  refine Ex.ck (by omega) (by omega) ?_
  generalize z14q : ((g13 43 (Int32.toNatClampNeg p1)) + (g13 q1 5)) = z14
  generalize z15q : (if (g13 q1 4) < z14 then z14 else (g13 q1 4)) = z15
  have b16 := ic_max (x := (g13 q1 4)) (y := z14) (m := (Int32.toInt (g13 q1 4))) (n := (Int32.toInt z14)) rfl rfl
  rw [z15q] at b16
  refine Ex.ck (by omega) (by omega) ?_
  generalize z17q : (z15 + (g13 45 (Int32.toNatClampNeg p1))) = z17
  refine Ex.ck (by omega) (by omega) ?_
  refine Ex.sti (hI.updN rfl) (fun g18 g18e hI => ?_)
  have k0_0 : g18 0 13 = g0 0 13 := by rw [g18e]; exact k0_0
  exact Ex.ret ⟨hI, k0_0⟩
set_option maxHeartbeats 4000000 in
set_option maxRecDepth 100000 in
theorem sX1_runFrom_8 (fu : Nat) (hfu : 1180591620717411303424 ≤ fu) (p1 : Int32) (g0 : Nat → Nat → Int32) (L0 : Nat → Nat → Int64) (hI : zI XT g0) (hp1 : (0 ≤ (Int32.toInt p1) ∧ (Int32.toInt p1) ≤ 12)) : Ex (fX1_runFrom_8 fu p1 g0 L0) (fun (r : Unit) (g1 : Nat → Nat → Int32) (L1 : Nat → Nat → Int64) => zI XT g1 ∧ g1 0 13 = g0 0 13) := by
  have k0_0 : g0 0 13 = g0 0 13 := rfl
  unfold fX1_runFrom_8
  have lp2 : ∀ (v2 : Int32) (g : Nat → Nat → Int32) (L : Nat → Nat → Int64), (0 ≤ (Int32.toInt v2) ∧ (Int32.toInt v2) ≤ 12) → zI XT g → g 0 13 = g0 0 13 → Ex (fX1_runFrom_8_l2 fu v2 g L) (fun (r : Unit) (g1 : Nat → Nat → Int32) (L1 : Nat → Nat → Int64) => zI XT g1 ∧ g1 0 13 = g0 0 13) := by
    intro v2 g L hb_v2 hI k0_0
    unfold fX1_runFrom_8_l2
    refine Ex.loop (fun v => ((0 ≤ (Int32.toInt (v.1)) ∧ (Int32.toInt (v.1)) ≤ 12)) ∧ (zI XT (v.2.1)) ∧ ((v.2.1) 0 13 = g0 0 13)) (fun v => 13 - (Int32.toInt (v.1))) (by omega) (by show 13 - (Int32.toInt v2) < (fu : Int); omega) ⟨hb_v2, hI, k0_0⟩ (fun k2 v hv ih2 => ?_)
    obtain ⟨v2, g, L⟩ := v
    obtain ⟨hb_v2, hI, k0_0⟩ := hv
    have hb_v2 : (0 ≤ (Int32.toInt v2) ∧ (Int32.toInt v2) ≤ 12) := hb_v2
    have hI : zI XT g := hI
    have k0_0 : g 0 13 = g0 0 13 := k0_0
    have ih2 : ∀ v' : Int32 × (Nat → Nat → Int32) × (Nat → Nat → Int64), (((0 ≤ (Int32.toInt (v'.1)) ∧ (Int32.toInt (v'.1)) ≤ 12)) ∧ (zI XT (v'.2.1)) ∧ ((v'.2.1) 0 13 = g0 0 13)) → 13 - (Int32.toInt (v'.1)) < 13 - (Int32.toInt v2) → 0 < 13 - (Int32.toInt v2) → Ex (k2 v') (fun (r : Unit) (g1 : Nat → Nat → Int32) (L1 : Nat → Nat → Int64) => zI XT g1 ∧ g1 0 13 = g0 0 13) := ih2
    show Ex (fX1_runFrom_8_s2 fu k2 v2 g L) (fun (r : Unit) (g1 : Nat → Nat → Int32) (L1 : Nat → Nat → Int64) => zI XT g1 ∧ g1 0 13 = g0 0 13)
    unfold fX1_runFrom_8_s2
    have b1 : 0 ≤ (Int32.toInt (g 1 2)) ∧ (Int32.toInt (g 1 2)) ≤ 12 := hI 1 2 0 12 rfl
    refine Ex.ite (fun c2 => ?_) (fun c2 => ?_)
    ·
      have c2 := icc_le (m := (Int32.toInt (g 1 2))) (n := (Int32.toInt v2)) rfl rfl c2
      exact Ex.ret ⟨hI, k0_0⟩
    ·
      have c2 := icc_nle (m := (Int32.toInt (g 1 2))) (n := (Int32.toInt v2)) rfl rfl c2
      refine Ex.cb (sX1_runOne_8 fu hfu v2 g L hI (by omega)) (fun x3 g4 L5 hq7 => ?_)
      obtain ⟨hI, kk0⟩ := hq7
      have hI : zI XT g4 := hI
      have k0_0 : g4 0 13 = g0 0 13 := kk0.trans k0_0
      generalize z8q : (v2 + 1) = z8
      have e9 : (Int32.toInt z8) = (Int32.toInt v2) + 1 := by rw [← z8q]; exact ic_addc rfl (by decide) (by omega) (by omega)
      exact ih2 (z8, g4, L5) ⟨(show (0 ≤ (Int32.toInt z8) ∧ (Int32.toInt z8) ≤ 12) from by omega), hI, k0_0⟩ (by show 13 - (Int32.toInt z8) < _; omega) (by omega)
  exact lp2 p1 g0 L0 (by omega) hI k0_0
set_option maxHeartbeats 4000000 in
set_option maxRecDepth 100000 in
theorem sX1_lostFrom_8 (fu : Nat) (hfu : 1180591620717411303424 ≤ fu) (p1 : Int32) (g0 : Nat → Nat → Int32) (L0 : Nat → Nat → Int64) (hI : zI XT g0) (hp1 : (0 ≤ (Int32.toInt p1) ∧ (Int32.toInt p1) ≤ 12)) : Ex (fX1_lostFrom_8 fu p1 g0 L0) (fun (r : Int32) (g1 : Nat → Nat → Int32) (L1 : Nat → Nat → Int64) => zI XT g1 ∧ g1 0 13 = g0 0 13) := by
  have k0_0 : g0 0 13 = g0 0 13 := rfl
  unfold fX1_lostFrom_8
  have lp2 : ∀ (v2 : Int32) (g : Nat → Nat → Int32) (L : Nat → Nat → Int64), (0 ≤ (Int32.toInt v2) ∧ (Int32.toInt v2) ≤ 12) → zI XT g → g 0 13 = g0 0 13 → Ex (fX1_lostFrom_8_l2 fu v2 g L) (fun (r : Int32) (g1 : Nat → Nat → Int32) (L1 : Nat → Nat → Int64) => zI XT g1 ∧ g1 0 13 = g0 0 13) := by
    intro v2 g L hb_v2 hI k0_0
    unfold fX1_lostFrom_8_l2
    refine Ex.loop (fun v => ((0 ≤ (Int32.toInt (v.1)) ∧ (Int32.toInt (v.1)) ≤ 12)) ∧ (zI XT (v.2.1)) ∧ ((v.2.1) 0 13 = g0 0 13)) (fun v => 13 - (Int32.toInt (v.1))) (by omega) (by show 13 - (Int32.toInt v2) < (fu : Int); omega) ⟨hb_v2, hI, k0_0⟩ (fun k2 v hv ih2 => ?_)
    obtain ⟨v2, g, L⟩ := v
    obtain ⟨hb_v2, hI, k0_0⟩ := hv
    have hb_v2 : (0 ≤ (Int32.toInt v2) ∧ (Int32.toInt v2) ≤ 12) := hb_v2
    have hI : zI XT g := hI
    have k0_0 : g 0 13 = g0 0 13 := k0_0
    have ih2 : ∀ v' : Int32 × (Nat → Nat → Int32) × (Nat → Nat → Int64), (((0 ≤ (Int32.toInt (v'.1)) ∧ (Int32.toInt (v'.1)) ≤ 12)) ∧ (zI XT (v'.2.1)) ∧ ((v'.2.1) 0 13 = g0 0 13)) → 13 - (Int32.toInt (v'.1)) < 13 - (Int32.toInt v2) → 0 < 13 - (Int32.toInt v2) → Ex (k2 v') (fun (r : Int32) (g1 : Nat → Nat → Int32) (L1 : Nat → Nat → Int64) => zI XT g1 ∧ g1 0 13 = g0 0 13) := ih2
    show Ex (fX1_lostFrom_8_s2 fu k2 v2 g L) (fun (r : Int32) (g1 : Nat → Nat → Int32) (L1 : Nat → Nat → Int64) => zI XT g1 ∧ g1 0 13 = g0 0 13)
    unfold fX1_lostFrom_8_s2
    have b1 : 0 ≤ (Int32.toInt (g 1 2)) ∧ (Int32.toInt (g 1 2)) ≤ 12 := hI 1 2 0 12 rfl
    refine Ex.ite (fun c2 => ?_) (fun c2 => ?_)
    ·
      have c2 := icc_le (m := (Int32.toInt (g 1 2))) (n := (Int32.toInt v2)) rfl rfl c2
      refine Ex.cb (sX1_lost_8 fu hfu g L hI) (fun x3 g4 L5 hq7 => ?_)
      obtain ⟨hI, kk0⟩ := hq7
      have hI : zI XT g4 := hI
      have k0_0 : g4 0 13 = g0 0 13 := kk0.trans k0_0
      exact Ex.ret ⟨hI, k0_0⟩
    ·
      have c2 := icc_nle (m := (Int32.toInt (g 1 2))) (n := (Int32.toInt v2)) rfl rfl c2
      refine Ex.cb (sX1_runOne_8 fu hfu v2 g L hI (by omega)) (fun x8 g9 L10 hq12 => ?_)
      obtain ⟨hI, kk0⟩ := hq12
      have hI : zI XT g9 := hI
      have k0_0 : g9 0 13 = g0 0 13 := kk0.trans k0_0
      generalize z13q : (v2 + 1) = z13
      have e14 : (Int32.toInt z13) = (Int32.toInt v2) + 1 := by rw [← z13q]; exact ic_addc rfl (by decide) (by omega) (by omega)
      exact ih2 (z13, g9, L10) ⟨(show (0 ≤ (Int32.toInt z13) ∧ (Int32.toInt z13) ≤ 12) from by omega), hI, k0_0⟩ (by show 13 - (Int32.toInt z13) < _; omega) (by omega)
  exact lp2 p1 g0 L0 (by omega) hI k0_0
set_option maxHeartbeats 4000000 in
set_option maxRecDepth 100000 in
theorem sX1_lateOnes_8 (fu : Nat) (hfu : 1180591620717411303424 ≤ fu) (g0 : Nat → Nat → Int32) (L0 : Nat → Nat → Int64) (hI : zI XT g0) : Ex (fX1_lateOnes_8 fu g0 L0) (fun (r : Int32) (g1 : Nat → Nat → Int32) (L1 : Nat → Nat → Int64) => zI XT g1 ∧ g1 0 13 = g0 0 13) := by
  have k0_0 : g0 0 13 = g0 0 13 := rfl
  unfold fX1_lateOnes_8
  have lp4 : ∀ (v1 : Int32) (v2 : Int32) (g : Nat → Nat → Int32) (L : Nat → Nat → Int64), (0 ≤ (Int32.toInt v2) ∧ (Int32.toInt v2) ≤ 12) → zI XT g → g 0 13 = g0 0 13 → Ex (fX1_lateOnes_8_l4 fu v1 v2 g L) (fun (r : Int32) (g1 : Nat → Nat → Int32) (L1 : Nat → Nat → Int64) => zI XT g1 ∧ g1 0 13 = g0 0 13) := by
    intro v1 v2 g L hb_v2 hI k0_0
    unfold fX1_lateOnes_8_l4
    refine Ex.loop (fun v => ((0 ≤ (Int32.toInt (v.2.1)) ∧ (Int32.toInt (v.2.1)) ≤ 12)) ∧ (zI XT (v.2.2.1)) ∧ ((v.2.2.1) 0 13 = g0 0 13)) (fun v => 13 - (Int32.toInt (v.2.1))) (by omega) (by show 13 - (Int32.toInt v2) < (fu : Int); omega) ⟨hb_v2, hI, k0_0⟩ (fun k4 v hv ih4 => ?_)
    obtain ⟨v1, v2, g, L⟩ := v
    obtain ⟨hb_v2, hI, k0_0⟩ := hv
    have hb_v2 : (0 ≤ (Int32.toInt v2) ∧ (Int32.toInt v2) ≤ 12) := hb_v2
    have hI : zI XT g := hI
    have k0_0 : g 0 13 = g0 0 13 := k0_0
    have ih4 : ∀ v' : Int32 × Int32 × (Nat → Nat → Int32) × (Nat → Nat → Int64), (((0 ≤ (Int32.toInt (v'.2.1)) ∧ (Int32.toInt (v'.2.1)) ≤ 12)) ∧ (zI XT (v'.2.2.1)) ∧ ((v'.2.2.1) 0 13 = g0 0 13)) → 13 - (Int32.toInt (v'.2.1)) < 13 - (Int32.toInt v2) → 0 < 13 - (Int32.toInt v2) → Ex (k4 v') (fun (r : Int32) (g1 : Nat → Nat → Int32) (L1 : Nat → Nat → Int64) => zI XT g1 ∧ g1 0 13 = g0 0 13) := ih4
    show Ex (fX1_lateOnes_8_s4 fu k4 v1 v2 g L) (fun (r : Int32) (g1 : Nat → Nat → Int32) (L1 : Nat → Nat → Int64) => zI XT g1 ∧ g1 0 13 = g0 0 13)
    unfold fX1_lateOnes_8_s4
    have b1 : 0 ≤ (Int32.toInt (g 1 2)) ∧ (Int32.toInt (g 1 2)) ≤ 12 := hI 1 2 0 12 rfl
    refine Ex.ite (fun c2 => ?_) (fun c2 => ?_)
    ·
      have c2 := icc_le (m := (Int32.toInt (g 1 2))) (n := (Int32.toInt v2)) rfl rfl c2
      exact Ex.ret ⟨hI, k0_0⟩
    ·
      have c2 := icc_nle (m := (Int32.toInt (g 1 2))) (n := (Int32.toInt v2)) rfl rfl c2
      refine Ex.cb (sX1_late_8 fu hfu v2 g L hI (by omega)) (fun x3 g4 L5 hq7 => ?_)
      obtain ⟨hI, kk0⟩ := hq7
      have hI : zI XT g4 := hI
      have k0_0 : g4 0 13 = g0 0 13 := kk0.trans k0_0
      have J29 : ∀ (t0 : Int32) (t1 : Int32) (g : Nat → Nat → Int32) (L : Nat → Nat → Int64), (0 ≤ (Int32.toInt v2) ∧ (Int32.toInt v2) ≤ 11) → (0 ≤ (Int32.toInt t0) ∧ (Int32.toInt t0) ≤ 1) → zI XT g → g 0 13 = g0 0 13 → Ex (fX1_lateOnes_8_p29 fu k4 v2 t0 t1 g L) (fun (r : Int32) (g1 : Nat → Nat → Int32) (L1 : Nat → Nat → Int64) => zI XT g1 ∧ g1 0 13 = g0 0 13) := by
        intro t0 t1 g L hb_v2 hb_t0 hI k0_0
        unfold fX1_lateOnes_8_p29
        generalize z8q : (t1 + t0) = z8
        refine Ex.lti (fun x9 x9e x9i => ?_)
        generalize z10q : (v2 + 1) = z10
        have e11 : (Int32.toInt z10) = (Int32.toInt v2) + 1 := by rw [← z10q]; exact ic_addc rfl (by decide) (by omega) (by omega)
        exact ih4 (x9, z10, g, L) ⟨(show (0 ≤ (Int32.toInt z10) ∧ (Int32.toInt z10) ≤ 12) from by omega), hI, k0_0⟩ (by show 13 - (Int32.toInt z10) < _; omega) (by omega)
      refine Ex.ite (fun c12 => ?_) (fun c12 => ?_)
      ·
        have c12 := icc_le (m := (Int32.toInt x3)) (n := 0) rfl (by decide) c12
        exact J29 0 v1 g4 L5 (by omega) (by decide) hI k0_0
      ·
        have c12 := icc_nle (m := (Int32.toInt x3)) (n := 0) rfl (by decide) c12
        exact J29 1 v1 g4 L5 (by omega) (by decide) hI k0_0
  exact lp4 0 0 g0 L0 (by decide) hI k0_0
set_option maxHeartbeats 4000000 in
set_option maxRecDepth 100000 in
theorem sX1_latest_8 (fu : Nat) (hfu : 1180591620717411303424 ≤ fu) (g0 : Nat → Nat → Int32) (L0 : Nat → Nat → Int64) (hI : zI XT g0) : Ex (fX1_latest_8 fu g0 L0) (fun (r : Int32) (g1 : Nat → Nat → Int32) (L1 : Nat → Nat → Int64) => zI XT g1 ∧ g1 0 13 = g0 0 13 ∧ (0 ≤ (Int32.toInt r))) := by
  have k0_0 : g0 0 13 = g0 0 13 := rfl
  unfold fX1_latest_8
  have lp4 : ∀ (v1 : Int32) (v2 : Int32) (g : Nat → Nat → Int32) (L : Nat → Nat → Int64), (0 ≤ (Int32.toInt v1)) → (0 ≤ (Int32.toInt v2) ∧ (Int32.toInt v2) ≤ 12) → zI XT g → g 0 13 = g0 0 13 → Ex (fX1_latest_8_l4 fu v1 v2 g L) (fun (r : Int32) (g1 : Nat → Nat → Int32) (L1 : Nat → Nat → Int64) => zI XT g1 ∧ g1 0 13 = g0 0 13 ∧ (0 ≤ (Int32.toInt r))) := by
    intro v1 v2 g L hb_v1 hb_v2 hI k0_0
    unfold fX1_latest_8_l4
    refine Ex.loop (fun v => ((0 ≤ (Int32.toInt (v.1)))) ∧ ((0 ≤ (Int32.toInt (v.2.1)) ∧ (Int32.toInt (v.2.1)) ≤ 12)) ∧ (zI XT (v.2.2.1)) ∧ ((v.2.2.1) 0 13 = g0 0 13)) (fun v => 13 - (Int32.toInt (v.2.1))) (by omega) (by show 13 - (Int32.toInt v2) < (fu : Int); omega) ⟨hb_v1, hb_v2, hI, k0_0⟩ (fun k4 v hv ih4 => ?_)
    obtain ⟨v1, v2, g, L⟩ := v
    obtain ⟨hb_v1, hb_v2, hI, k0_0⟩ := hv
    have hb_v1 : (0 ≤ (Int32.toInt v1)) := hb_v1
    have hb_v2 : (0 ≤ (Int32.toInt v2) ∧ (Int32.toInt v2) ≤ 12) := hb_v2
    have hI : zI XT g := hI
    have k0_0 : g 0 13 = g0 0 13 := k0_0
    have ih4 : ∀ v' : Int32 × Int32 × (Nat → Nat → Int32) × (Nat → Nat → Int64), (((0 ≤ (Int32.toInt (v'.1)))) ∧ ((0 ≤ (Int32.toInt (v'.2.1)) ∧ (Int32.toInt (v'.2.1)) ≤ 12)) ∧ (zI XT (v'.2.2.1)) ∧ ((v'.2.2.1) 0 13 = g0 0 13)) → 13 - (Int32.toInt (v'.2.1)) < 13 - (Int32.toInt v2) → 0 < 13 - (Int32.toInt v2) → Ex (k4 v') (fun (r : Int32) (g1 : Nat → Nat → Int32) (L1 : Nat → Nat → Int64) => zI XT g1 ∧ g1 0 13 = g0 0 13 ∧ (0 ≤ (Int32.toInt r))) := ih4
    show Ex (fX1_latest_8_s4 fu k4 v1 v2 g L) (fun (r : Int32) (g1 : Nat → Nat → Int32) (L1 : Nat → Nat → Int64) => zI XT g1 ∧ g1 0 13 = g0 0 13 ∧ (0 ≤ (Int32.toInt r)))
    unfold fX1_latest_8_s4
    have b1 : 0 ≤ (Int32.toInt (g 1 2)) ∧ (Int32.toInt (g 1 2)) ≤ 12 := hI 1 2 0 12 rfl
    refine Ex.ite (fun c2 => ?_) (fun c2 => ?_)
    ·
      have c2 := icc_le (m := (Int32.toInt (g 1 2))) (n := (Int32.toInt v2)) rfl rfl c2
      exact Ex.ret ⟨hI, k0_0, (by omega)⟩
    ·
      have c2 := icc_nle (m := (Int32.toInt (g 1 2))) (n := (Int32.toInt v2)) rfl rfl c2
      refine Ex.cb (sX1_late_8 fu hfu v2 g L hI (by omega)) (fun x3 g4 L5 hq7 => ?_)
      obtain ⟨hI, kk0⟩ := hq7
      have hI : zI XT g4 := hI
      have k0_0 : g4 0 13 = g0 0 13 := kk0.trans k0_0
      generalize z8q : (if v1 < x3 then x3 else v1) = z8
      have b9 := ic_max (x := v1) (y := x3) (m := (Int32.toInt v1)) (n := (Int32.toInt x3)) rfl rfl
      rw [z8q] at b9
      refine Ex.lti (fun x10 x10e x10i => ?_)
      generalize z11q : (v2 + 1) = z11
      have e12 : (Int32.toInt z11) = (Int32.toInt v2) + 1 := by rw [← z11q]; exact ic_addc rfl (by decide) (by omega) (by omega)
      exact ih4 (x10, z11, g4, L5) ⟨(show (0 ≤ (Int32.toInt x10)) from by omega), (show (0 ≤ (Int32.toInt z11) ∧ (Int32.toInt z11) ≤ 12) from by omega), hI, k0_0⟩ (by show 13 - (Int32.toInt z11) < _; omega) (by omega)
  exact lp4 0 0 g0 L0 (by decide) (by decide) hI k0_0
set_option maxHeartbeats 4000000 in
set_option maxRecDepth 100000 in
theorem sX1_begunLater_8 (fu : Nat) (hfu : 1180591620717411303424 ≤ fu) (g0 : Nat → Nat → Int32) (L0 : Nat → Nat → Int64) (hI : zI XT g0) : Ex (fX1_begunLater_8 fu g0 L0) (fun (r : Int32) (g1 : Nat → Nat → Int32) (L1 : Nat → Nat → Int64) => zI XT g1 ∧ g1 0 13 = g0 0 13) := by
  have k0_0 : g0 0 13 = g0 0 13 := rfl
  unfold fX1_begunLater_8
  have lp4 : ∀ (v1 : Int32) (v2 : Int32) (g : Nat → Nat → Int32) (L : Nat → Nat → Int64), (0 ≤ (Int32.toInt v2) ∧ (Int32.toInt v2) ≤ 12) → zI XT g → g 0 13 = g0 0 13 → Ex (fX1_begunLater_8_l4 fu v1 v2 g L) (fun (r : Int32) (g1 : Nat → Nat → Int32) (L1 : Nat → Nat → Int64) => zI XT g1 ∧ g1 0 13 = g0 0 13) := by
    intro v1 v2 g L hb_v2 hI k0_0
    unfold fX1_begunLater_8_l4
    refine Ex.loop (fun v => ((0 ≤ (Int32.toInt (v.2.1)) ∧ (Int32.toInt (v.2.1)) ≤ 12)) ∧ (zI XT (v.2.2.1)) ∧ ((v.2.2.1) 0 13 = g0 0 13)) (fun v => 13 - (Int32.toInt (v.2.1))) (by omega) (by show 13 - (Int32.toInt v2) < (fu : Int); omega) ⟨hb_v2, hI, k0_0⟩ (fun k4 v hv ih4 => ?_)
    obtain ⟨v1, v2, g, L⟩ := v
    obtain ⟨hb_v2, hI, k0_0⟩ := hv
    have hb_v2 : (0 ≤ (Int32.toInt v2) ∧ (Int32.toInt v2) ≤ 12) := hb_v2
    have hI : zI XT g := hI
    have k0_0 : g 0 13 = g0 0 13 := k0_0
    have ih4 : ∀ v' : Int32 × Int32 × (Nat → Nat → Int32) × (Nat → Nat → Int64), (((0 ≤ (Int32.toInt (v'.2.1)) ∧ (Int32.toInt (v'.2.1)) ≤ 12)) ∧ (zI XT (v'.2.2.1)) ∧ ((v'.2.2.1) 0 13 = g0 0 13)) → 13 - (Int32.toInt (v'.2.1)) < 13 - (Int32.toInt v2) → 0 < 13 - (Int32.toInt v2) → Ex (k4 v') (fun (r : Int32) (g1 : Nat → Nat → Int32) (L1 : Nat → Nat → Int64) => zI XT g1 ∧ g1 0 13 = g0 0 13) := ih4
    show Ex (fX1_begunLater_8_s4 fu k4 v1 v2 g L) (fun (r : Int32) (g1 : Nat → Nat → Int32) (L1 : Nat → Nat → Int64) => zI XT g1 ∧ g1 0 13 = g0 0 13)
    unfold fX1_begunLater_8_s4
    have b1 : 0 ≤ (Int32.toInt (g 1 2)) ∧ (Int32.toInt (g 1 2)) ≤ 12 := hI 1 2 0 12 rfl
    refine Ex.ite (fun c2 => ?_) (fun c2 => ?_)
    ·
      have c2 := icc_le (m := (Int32.toInt (g 1 2))) (n := (Int32.toInt v2)) rfl rfl c2
      exact Ex.ret ⟨hI, k0_0⟩
    ·
      have c2 := icc_nle (m := (Int32.toInt (g 1 2))) (n := (Int32.toInt v2)) rfl rfl c2
      refine Ex.ck (by omega) (by omega) ?_
      refine Ex.ck (by omega) (by omega) ?_
      refine Ex.ltn (fun q3 q3e => ?_)
      have q3b : 57 ≤ q3 ∧ q3 < 69 := by have := Nat.mod_lt (Int32.toNatClampNeg v2) (show 12 > 0 by decide); omega
      have J42 : ∀ (t0 : Int32) (t1 : Int32) (g : Nat → Nat → Int32) (L : Nat → Nat → Int64), (0 ≤ (Int32.toInt v2) ∧ (Int32.toInt v2) ≤ 11) → (0 ≤ (Int32.toInt t0) ∧ (Int32.toInt t0) ≤ 1) → zI XT g → g 0 13 = g0 0 13 → Ex (fX1_begunLater_8_p42 fu k4 v2 t0 t1 g L) (fun (r : Int32) (g1 : Nat → Nat → Int32) (L1 : Nat → Nat → Int64) => zI XT g1 ∧ g1 0 13 = g0 0 13) := by
        intro t0 t1 g L hb_v2 hb_t0 hI k0_0
        unfold fX1_begunLater_8_p42
        generalize z4q : (t1 + t0) = z4
        refine Ex.lti (fun x5 x5e x5i => ?_)
        generalize z6q : (v2 + 1) = z6
        have e7 : (Int32.toInt z6) = (Int32.toInt v2) + 1 := by rw [← z6q]; exact ic_addc rfl (by decide) (by omega) (by omega)
        exact ih4 (x5, z6, g, L) ⟨(show (0 ≤ (Int32.toInt z6) ∧ (Int32.toInt z6) ≤ 12) from by omega), hI, k0_0⟩ (by show 13 - (Int32.toInt z6) < _; omega) (by omega)
      refine Ex.ite (fun c8 => ?_) (fun c8 => ?_)
      ·
        have c8 := icc_le (m := (Int32.toInt (g 43 (Int32.toNatClampNeg v2)))) (n := (Int32.toInt (g q3 3))) rfl rfl c8
        exact J42 0 v1 g L (by omega) (by decide) hI k0_0
      ·
        have c8 := icc_nle (m := (Int32.toInt (g 43 (Int32.toNatClampNeg v2)))) (n := (Int32.toInt (g q3 3))) rfl rfl c8
        exact J42 1 v1 g L (by omega) (by decide) hI k0_0
  exact lp4 0 0 g0 L0 (by decide) hI k0_0
set_option maxHeartbeats 4000000 in
set_option maxRecDepth 100000 in
theorem sX1_onBits_8 (fu : Nat) (hfu : 1180591620717411303424 ≤ fu) (p1 : Int32) (g0 : Nat → Nat → Int32) (L0 : Nat → Nat → Int64) (hI : zI XT g0) : Ex (fX1_onBits_8 fu p1 g0 L0) (fun (r : Int32) (g1 : Nat → Nat → Int32) (L1 : Nat → Nat → Int64) => zI XT g1 ∧ g1 0 13 = g0 0 13) := by
  have k0_0 : g0 0 13 = g0 0 13 := rfl
  unfold fX1_onBits_8
  have lp4 : ∀ (v1 : Int32) (v2 : Int32) (v3 : Int32) (g : Nat → Nat → Int32) (L : Nat → Nat → Int64), (0 ≤ (Int32.toInt v3) ∧ (Int32.toInt v3) ≤ 12) → zI XT g → g 0 13 = g0 0 13 → Ex (fX1_onBits_8_l4 fu v1 v2 v3 g L) (fun (r : Int32) (g1 : Nat → Nat → Int32) (L1 : Nat → Nat → Int64) => zI XT g1 ∧ g1 0 13 = g0 0 13) := by
    intro v1 v2 v3 g L hb_v3 hI k0_0
    unfold fX1_onBits_8_l4
    refine Ex.loop (fun v => ((0 ≤ (Int32.toInt (v.2.1)) ∧ (Int32.toInt (v.2.1)) ≤ 12)) ∧ (zI XT (v.2.2.1)) ∧ ((v.2.2.1) 0 13 = g0 0 13)) (fun v => 13 - (Int32.toInt (v.2.1))) (by omega) (by show 13 - (Int32.toInt v3) < (fu : Int); omega) ⟨hb_v3, hI, k0_0⟩ (fun k4 v hv ih4 => ?_)
    obtain ⟨v2, v3, g, L⟩ := v
    obtain ⟨hb_v3, hI, k0_0⟩ := hv
    have hb_v3 : (0 ≤ (Int32.toInt v3) ∧ (Int32.toInt v3) ≤ 12) := hb_v3
    have hI : zI XT g := hI
    have k0_0 : g 0 13 = g0 0 13 := k0_0
    have ih4 : ∀ v' : Int32 × Int32 × (Nat → Nat → Int32) × (Nat → Nat → Int64), (((0 ≤ (Int32.toInt (v'.2.1)) ∧ (Int32.toInt (v'.2.1)) ≤ 12)) ∧ (zI XT (v'.2.2.1)) ∧ ((v'.2.2.1) 0 13 = g0 0 13)) → 13 - (Int32.toInt (v'.2.1)) < 13 - (Int32.toInt v3) → 0 < 13 - (Int32.toInt v3) → Ex (k4 v') (fun (r : Int32) (g1 : Nat → Nat → Int32) (L1 : Nat → Nat → Int64) => zI XT g1 ∧ g1 0 13 = g0 0 13) := ih4
    show Ex (fX1_onBits_8_s4 fu v1 k4 v2 v3 g L) (fun (r : Int32) (g1 : Nat → Nat → Int32) (L1 : Nat → Nat → Int64) => zI XT g1 ∧ g1 0 13 = g0 0 13)
    unfold fX1_onBits_8_s4
    have b1 : 0 ≤ (Int32.toInt (g 1 2)) ∧ (Int32.toInt (g 1 2)) ≤ 12 := hI 1 2 0 12 rfl
    refine Ex.ite (fun c2 => ?_) (fun c2 => ?_)
    ·
      have c2 := icc_le (m := (Int32.toInt (g 1 2))) (n := (Int32.toInt v3)) rfl rfl c2
      exact Ex.ret ⟨hI, k0_0⟩
    ·
      have c2 := icc_nle (m := (Int32.toInt (g 1 2))) (n := (Int32.toInt v3)) rfl rfl c2
      refine Ex.ck (by omega) (by omega) ?_
      have J41 : ∀ (v2 : Int32) (g : Nat → Nat → Int32) (L : Nat → Nat → Int64), (0 ≤ (Int32.toInt v3) ∧ (Int32.toInt v3) ≤ 11) → zI XT g → g 0 13 = g0 0 13 → Ex (fX1_onBits_8_p41 fu k4 v1 v2 v3 g L) (fun (r : Int32) (g1 : Nat → Nat → Int32) (L1 : Nat → Nat → Int64) => zI XT g1 ∧ g1 0 13 = g0 0 13) := by
        intro v2 g L hb_v3 hI k0_0
        unfold fX1_onBits_8_p41
        generalize z3q : (v3 + 1) = z3
        have e4 : (Int32.toInt z3) = (Int32.toInt v3) + 1 := by rw [← z3q]; exact ic_addc rfl (by decide) (by omega) (by omega)
        exact ih4 (v2, z3, g, L) ⟨(show (0 ≤ (Int32.toInt z3) ∧ (Int32.toInt z3) ≤ 12) from by omega), hI, k0_0⟩ (by show 13 - (Int32.toInt z3) < _; omega) (by omega)
      refine Ex.ite (fun c5 => ?_) (fun c5 => ?_)
      ·
        have c5 := icc_lt (m := (Int32.toInt v1)) (n := (Int32.toInt (g 43 (Int32.toNatClampNeg v3)))) rfl rfl c5
        exact J41 v2 g L (by omega) hI k0_0
      ·
        have c5 := icc_nlt (m := (Int32.toInt v1)) (n := (Int32.toInt (g 43 (Int32.toNatClampNeg v3)))) rfl rfl c5
        refine Ex.ck (by omega) (by omega) ?_
        refine Ex.ite (fun c6 => ?_) (fun c6 => ?_)
        ·
          have c6 := icc_le (m := (Int32.toInt (g 44 (Int32.toNatClampNeg v3)))) (n := (Int32.toInt v1)) rfl rfl c6
          exact J41 v2 g L (by omega) hI k0_0
        ·
          have c6 := icc_nle (m := (Int32.toInt (g 44 (Int32.toNatClampNeg v3)))) (n := (Int32.toInt v1)) rfl rfl c6
          generalize z7q : ((1 : Int32) <<< ((v3 : Int32) &&& 31) : Int32) = z7
          generalize z8q : (v2 ||| z7) = z8
          refine Ex.lti (fun x9 x9e x9i => ?_)
          exact J41 x9 g L (by omega) hI k0_0
  exact lp4 p1 0 0 g0 L0 (by decide) hI k0_0
set_option maxHeartbeats 4000000 in
set_option maxRecDepth 100000 in
theorem sX1_clashOf_8 (fu : Nat) (hfu : 1180591620717411303424 ≤ fu) (p1 : Int32) (p2 : Int32) (g0 : Nat → Nat → Int32) (L0 : Nat → Nat → Int64) (hI : zI XT g0) (hp1 : (0 ≤ (Int32.toInt p1) ∧ (Int32.toInt p1) ≤ 11)) (hp2 : (0 ≤ (Int32.toInt p2) ∧ (Int32.toInt p2) ≤ 11)) : Ex (fX1_clashOf_8 fu p1 p2 g0 L0) (fun (r : Int32) (g1 : Nat → Nat → Int32) (L1 : Nat → Nat → Int64) => zI XT g1 ∧ g1 0 13 = g0 0 13) := by
  have k0_0 : g0 0 13 = g0 0 13 := rfl
  unfold fX1_clashOf_8
  refine Ex.ck (by omega) (by omega) ?_
  refine Ex.ck (by omega) (by omega) ?_
  generalize z1q : (if (g0 43 (Int32.toNatClampNeg p1)) < (g0 43 (Int32.toNatClampNeg p2)) then (g0 43 (Int32.toNatClampNeg p2)) else (g0 43 (Int32.toNatClampNeg p1))) = z1
  have b2 := ic_max (x := (g0 43 (Int32.toNatClampNeg p1))) (y := (g0 43 (Int32.toNatClampNeg p2))) (m := (Int32.toInt (g0 43 (Int32.toNatClampNeg p1)))) (n := (Int32.toInt (g0 43 (Int32.toNatClampNeg p2)))) rfl rfl
  rw [z1q] at b2
  refine Ex.lti (fun x3 x3e x3i => ?_)
  refine Ex.ck (by omega) (by omega) ?_
  refine Ex.ck (by omega) (by omega) ?_
  generalize z4q : (if (g0 44 (Int32.toNatClampNeg p2)) < (g0 44 (Int32.toNatClampNeg p1)) then (g0 44 (Int32.toNatClampNeg p2)) else (g0 44 (Int32.toNatClampNeg p1))) = z4
  have b5 := ic_min (x := (g0 44 (Int32.toNatClampNeg p1))) (y := (g0 44 (Int32.toNatClampNeg p2))) (m := (Int32.toInt (g0 44 (Int32.toNatClampNeg p1)))) (n := (Int32.toInt (g0 44 (Int32.toNatClampNeg p2)))) rfl rfl
  rw [z4q] at b5
  have J40 : ∀ (v1 : Int32) (v2 : Int32) (v3 : Int32) (t0 : Int32) (g : Nat → Nat → Int32) (L : Nat → Nat → Int64), (0 ≤ (Int32.toInt v1) ∧ (Int32.toInt v1) ≤ 11) → (0 ≤ (Int32.toInt v2) ∧ (Int32.toInt v2) ≤ 11) → (0 ≤ (Int32.toInt t0) ∧ (Int32.toInt t0) ≤ 1) → zI XT g → g 0 13 = g0 0 13 → Ex (fX1_clashOf_8_p40 fu v1 v2 v3 t0 g L) (fun (r : Int32) (g1 : Nat → Nat → Int32) (L1 : Nat → Nat → Int64) => zI XT g1 ∧ g1 0 13 = g0 0 13) := by
    intro v1 v2 v3 t0 g L hb_v1 hb_v2 hb_t0 hI k0_0
    unfold fX1_clashOf_8_p40
    have J73 : ∀ (t0 : Int32) (g : Nat → Nat → Int32) (L : Nat → Nat → Int64), zI XT g → g 0 13 = g0 0 13 → Ex (fX1_clashOf_8_p73 fu t0 g L) (fun (r : Int32) (g1 : Nat → Nat → Int32) (L1 : Nat → Nat → Int64) => zI XT g1 ∧ g1 0 13 = g0 0 13) := by
      intro t0 g L hI k0_0
      unfold fX1_clashOf_8_p73
      exact Ex.ret ⟨hI, k0_0⟩
    have J72 : ∀ (g : Nat → Nat → Int32) (L : Nat → Nat → Int64), zI XT g → g 0 13 = g0 0 13 → Ex (fX1_clashOf_8_p72 fu g L) (fun (r : Int32) (g1 : Nat → Nat → Int32) (L1 : Nat → Nat → Int64) => zI XT g1 ∧ g1 0 13 = g0 0 13) := by
      intro g L hI k0_0
      unfold fX1_clashOf_8_p72
      exact J73 (-1) g L hI k0_0
    refine Ex.ite (fun c6 => ?_) (fun c6 => ?_)
    ·
      have c6 := icc_eq (m := (Int32.toInt t0)) (n := 0) rfl (by decide) c6
      exact J72 g L hI k0_0
    ·
      have c6 := icc_neq (m := (Int32.toInt t0)) (n := 0) rfl (by decide) c6
      refine Ex.ck (by omega) (by omega) ?_
      refine Ex.ck (by omega) (by omega) ?_
      refine Ex.ite (fun c7 => ?_) (fun c7 => ?_)
      ·
        have c7 := icc_eq (m := (Int32.toInt (g 27 (Int32.toNatClampNeg v1)))) (n := (Int32.toInt (g 27 (Int32.toNatClampNeg v2)))) rfl rfl c7
        exact J73 v3 g L hI k0_0
      ·
        have c7 := icc_neq (m := (Int32.toInt (g 27 (Int32.toNatClampNeg v1)))) (n := (Int32.toInt (g 27 (Int32.toNatClampNeg v2)))) rfl rfl c7
        exact J72 g L hI k0_0
  refine Ex.ite (fun c8 => ?_) (fun c8 => ?_)
  ·
    have c8 := icc_le (m := (Int32.toInt z4)) (n := (Int32.toInt x3)) rfl rfl c8
    exact J40 p1 p2 x3 0 g0 L0 (by omega) (by omega) (by decide) hI k0_0
  ·
    have c8 := icc_nle (m := (Int32.toInt z4)) (n := (Int32.toInt x3)) rfl rfl c8
    exact J40 p1 p2 x3 1 g0 L0 (by omega) (by omega) (by decide) hI k0_0
set_option maxHeartbeats 4000000 in
set_option maxRecDepth 100000 in
theorem sX1_clashes_8 (fu : Nat) (hfu : 1180591620717411303424 ≤ fu) (g0 : Nat → Nat → Int32) (L0 : Nat → Nat → Int64) (hI : zI XT g0) : Ex (fX1_clashes_8 fu g0 L0) (fun (r : Int32) (g1 : Nat → Nat → Int32) (L1 : Nat → Nat → Int64) => zI XT g1 ∧ g1 0 13 = g0 0 13) := by
  have k0_0 : g0 0 13 = g0 0 13 := rfl
  unfold fX1_clashes_8
  have lp4 : ∀ (v1 : Int32) (v2 : Int32) (g : Nat → Nat → Int32) (L : Nat → Nat → Int64), (0 ≤ (Int32.toInt v2) ∧ (Int32.toInt v2) ≤ 12) → zI XT g → g 0 13 = g0 0 13 → Ex (fX1_clashes_8_l4 fu v1 v2 g L) (fun (r : Int32) (g1 : Nat → Nat → Int32) (L1 : Nat → Nat → Int64) => zI XT g1 ∧ g1 0 13 = g0 0 13) := by
    intro v1 v2 g L hb_v2 hI k0_0
    unfold fX1_clashes_8_l4
    refine Ex.loop (fun v => ((0 ≤ (Int32.toInt (v.2.1)) ∧ (Int32.toInt (v.2.1)) ≤ 12)) ∧ (zI XT (v.2.2.1)) ∧ ((v.2.2.1) 0 13 = g0 0 13)) (fun v => 13 - (Int32.toInt (v.2.1))) (by omega) (by show 13 - (Int32.toInt v2) < (fu : Int); omega) ⟨hb_v2, hI, k0_0⟩ (fun k4 v hv ih4 => ?_)
    obtain ⟨v1, v2, g, L⟩ := v
    obtain ⟨hb_v2, hI, k0_0⟩ := hv
    have hb_v2 : (0 ≤ (Int32.toInt v2) ∧ (Int32.toInt v2) ≤ 12) := hb_v2
    have hI : zI XT g := hI
    have k0_0 : g 0 13 = g0 0 13 := k0_0
    have ih4 : ∀ v' : Int32 × Int32 × (Nat → Nat → Int32) × (Nat → Nat → Int64), (((0 ≤ (Int32.toInt (v'.2.1)) ∧ (Int32.toInt (v'.2.1)) ≤ 12)) ∧ (zI XT (v'.2.2.1)) ∧ ((v'.2.2.1) 0 13 = g0 0 13)) → 13 - (Int32.toInt (v'.2.1)) < 13 - (Int32.toInt v2) → 0 < 13 - (Int32.toInt v2) → Ex (k4 v') (fun (r : Int32) (g1 : Nat → Nat → Int32) (L1 : Nat → Nat → Int64) => zI XT g1 ∧ g1 0 13 = g0 0 13) := ih4
    show Ex (fX1_clashes_8_s4 fu k4 v1 v2 g L) (fun (r : Int32) (g1 : Nat → Nat → Int32) (L1 : Nat → Nat → Int64) => zI XT g1 ∧ g1 0 13 = g0 0 13)
    unfold fX1_clashes_8_s4
    have b1 : 0 ≤ (Int32.toInt (g 1 2)) ∧ (Int32.toInt (g 1 2)) ≤ 12 := hI 1 2 0 12 rfl
    refine Ex.ite (fun c2 => ?_) (fun c2 => ?_)
    ·
      have c2 := icc_le (m := (Int32.toInt (g 1 2))) (n := (Int32.toInt v2)) rfl rfl c2
      exact Ex.ret ⟨hI, k0_0⟩
    ·
      have c2 := icc_nle (m := (Int32.toInt (g 1 2))) (n := (Int32.toInt v2)) rfl rfl c2
      generalize z3q : (v2 + 1) = z3
      have e4 : (Int32.toInt z3) = (Int32.toInt v2) + 1 := by rw [← z3q]; exact ic_addc rfl (by decide) (by omega) (by omega)
      refine Ex.lti (fun x5 x5e x5i => ?_)
      have lp19 : ∀ (v1 : Int32) (v3 : Int32) (g : Nat → Nat → Int32) (L : Nat → Nat → Int64), (0 ≤ (Int32.toInt v2) ∧ (Int32.toInt v2) ≤ 11) → (1 ≤ (Int32.toInt v3) ∧ (Int32.toInt v3) ≤ 12) → zI XT g → g 0 13 = g0 0 13 → Ex (fX1_clashes_8_l19 fu k4 v2 v1 v3 g L) (fun (r : Int32) (g1 : Nat → Nat → Int32) (L1 : Nat → Nat → Int64) => zI XT g1 ∧ g1 0 13 = g0 0 13) := by
        intro v1 v3 g L hb_v2 hb_v3 hI k0_0
        unfold fX1_clashes_8_l19
        refine Ex.loop (fun v => ((0 ≤ (Int32.toInt v2) ∧ (Int32.toInt v2) ≤ 11)) ∧ ((1 ≤ (Int32.toInt (v.2.1)) ∧ (Int32.toInt (v.2.1)) ≤ 12)) ∧ (zI XT (v.2.2.1)) ∧ ((v.2.2.1) 0 13 = g0 0 13)) (fun v => 13 - (Int32.toInt (v.2.1))) (by omega) (by show 13 - (Int32.toInt v3) < (fu : Int); omega) ⟨hb_v2, hb_v3, hI, k0_0⟩ (fun k19 v hv ih19 => ?_)
        obtain ⟨v1, v3, g, L⟩ := v
        obtain ⟨hb_v2, hb_v3, hI, k0_0⟩ := hv
        have hb_v2 : (0 ≤ (Int32.toInt v2) ∧ (Int32.toInt v2) ≤ 11) := hb_v2
        have hb_v3 : (1 ≤ (Int32.toInt v3) ∧ (Int32.toInt v3) ≤ 12) := hb_v3
        have hI : zI XT g := hI
        have k0_0 : g 0 13 = g0 0 13 := k0_0
        have ih19 : ∀ v' : Int32 × Int32 × (Nat → Nat → Int32) × (Nat → Nat → Int64), (((0 ≤ (Int32.toInt v2) ∧ (Int32.toInt v2) ≤ 11)) ∧ ((1 ≤ (Int32.toInt (v'.2.1)) ∧ (Int32.toInt (v'.2.1)) ≤ 12)) ∧ (zI XT (v'.2.2.1)) ∧ ((v'.2.2.1) 0 13 = g0 0 13)) → 13 - (Int32.toInt (v'.2.1)) < 13 - (Int32.toInt v3) → 0 < 13 - (Int32.toInt v3) → Ex (k19 v') (fun (r : Int32) (g1 : Nat → Nat → Int32) (L1 : Nat → Nat → Int64) => zI XT g1 ∧ g1 0 13 = g0 0 13) := ih19
        show Ex (fX1_clashes_8_s19 fu k4 v2 k19 v1 v3 g L) (fun (r : Int32) (g1 : Nat → Nat → Int32) (L1 : Nat → Nat → Int64) => zI XT g1 ∧ g1 0 13 = g0 0 13)
        unfold fX1_clashes_8_s19
        have b6 : 0 ≤ (Int32.toInt (g 1 2)) ∧ (Int32.toInt (g 1 2)) ≤ 12 := hI 1 2 0 12 rfl
        refine Ex.ite (fun c7 => ?_) (fun c7 => ?_)
        ·
          have c7 := icc_le (m := (Int32.toInt (g 1 2))) (n := (Int32.toInt v3)) rfl rfl c7
          generalize z8q : (v2 + 1) = z8
          have e9 : (Int32.toInt z8) = (Int32.toInt v2) + 1 := by rw [← z8q]; exact ic_addc rfl (by decide) (by omega) (by omega)
          exact ih4 (v1, z8, g, L) ⟨(show (0 ≤ (Int32.toInt z8) ∧ (Int32.toInt z8) ≤ 12) from by omega), hI, k0_0⟩ (by show 13 - (Int32.toInt z8) < _; omega) (by omega)
        ·
          have c7 := icc_nle (m := (Int32.toInt (g 1 2))) (n := (Int32.toInt v3)) rfl rfl c7
          refine Ex.cb (sX1_clashOf_8 fu hfu v2 v3 g L hI (by omega) (by omega)) (fun x10 g11 L12 hq14 => ?_)
          obtain ⟨hI, kk0⟩ := hq14
          have hI : zI XT g11 := hI
          have k0_0 : g11 0 13 = g0 0 13 := kk0.trans k0_0
          have J46 : ∀ (t0 : Int32) (t1 : Int32) (g : Nat → Nat → Int32) (L : Nat → Nat → Int64), (0 ≤ (Int32.toInt v2) ∧ (Int32.toInt v2) ≤ 11) → (1 ≤ (Int32.toInt v3) ∧ (Int32.toInt v3) ≤ 11) → (0 ≤ (Int32.toInt t0) ∧ (Int32.toInt t0) ≤ 1) → zI XT g → g 0 13 = g0 0 13 → Ex (fX1_clashes_8_p46 fu k4 k19 v2 v3 t0 t1 g L) (fun (r : Int32) (g1 : Nat → Nat → Int32) (L1 : Nat → Nat → Int64) => zI XT g1 ∧ g1 0 13 = g0 0 13) := by
            intro t0 t1 g L hb_v2 hb_v3 hb_t0 hI k0_0
            unfold fX1_clashes_8_p46
            generalize z15q : (t1 + t0) = z15
            refine Ex.lti (fun x16 x16e x16i => ?_)
            generalize z17q : (v3 + 1) = z17
            have e18 : (Int32.toInt z17) = (Int32.toInt v3) + 1 := by rw [← z17q]; exact ic_addc rfl (by decide) (by omega) (by omega)
            exact ih19 (x16, z17, g, L) ⟨(show (0 ≤ (Int32.toInt v2) ∧ (Int32.toInt v2) ≤ 11) from by omega), (show (1 ≤ (Int32.toInt z17) ∧ (Int32.toInt z17) ≤ 12) from by omega), hI, k0_0⟩ (by show 13 - (Int32.toInt z17) < _; omega) (by omega)
          refine Ex.ite (fun c19 => ?_) (fun c19 => ?_)
          ·
            have c19 := icc_eq (m := (Int32.toInt x10)) (n := (-1)) rfl (by decide) c19
            exact J46 0 v1 g11 L12 (by omega) (by omega) (by decide) hI k0_0
          ·
            have c19 := icc_neq (m := (Int32.toInt x10)) (n := (-1)) rfl (by decide) c19
            exact J46 1 v1 g11 L12 (by omega) (by omega) (by decide) hI k0_0
      exact lp19 v1 x5 g L (by omega) (by omega) hI k0_0
  exact lp4 0 0 g0 L0 (by decide) hI k0_0
set_option maxHeartbeats 4000000 in
set_option maxRecDepth 100000 in
theorem sX1_firstClash_8 (fu : Nat) (hfu : 1180591620717411303424 ≤ fu) (g0 : Nat → Nat → Int32) (L0 : Nat → Nat → Int64) (hI : zI XT g0) : Ex (fX1_firstClash_8 fu g0 L0) (fun (r : Int32) (g1 : Nat → Nat → Int32) (L1 : Nat → Nat → Int64) => zI XT g1 ∧ g1 0 13 = g0 0 13) := by
  have k0_0 : g0 0 13 = g0 0 13 := rfl
  unfold fX1_firstClash_8
  have lp4 : ∀ (v1 : Int32) (v2 : Int32) (g : Nat → Nat → Int32) (L : Nat → Nat → Int64), (0 ≤ (Int32.toInt v2) ∧ (Int32.toInt v2) ≤ 12) → zI XT g → g 0 13 = g0 0 13 → Ex (fX1_firstClash_8_l4 fu v1 v2 g L) (fun (r : Int32) (g1 : Nat → Nat → Int32) (L1 : Nat → Nat → Int64) => zI XT g1 ∧ g1 0 13 = g0 0 13) := by
    intro v1 v2 g L hb_v2 hI k0_0
    unfold fX1_firstClash_8_l4
    refine Ex.loop (fun v => ((0 ≤ (Int32.toInt (v.2.1)) ∧ (Int32.toInt (v.2.1)) ≤ 12)) ∧ (zI XT (v.2.2.1)) ∧ ((v.2.2.1) 0 13 = g0 0 13)) (fun v => 13 - (Int32.toInt (v.2.1))) (by omega) (by show 13 - (Int32.toInt v2) < (fu : Int); omega) ⟨hb_v2, hI, k0_0⟩ (fun k4 v hv ih4 => ?_)
    obtain ⟨v1, v2, g, L⟩ := v
    obtain ⟨hb_v2, hI, k0_0⟩ := hv
    have hb_v2 : (0 ≤ (Int32.toInt v2) ∧ (Int32.toInt v2) ≤ 12) := hb_v2
    have hI : zI XT g := hI
    have k0_0 : g 0 13 = g0 0 13 := k0_0
    have ih4 : ∀ v' : Int32 × Int32 × (Nat → Nat → Int32) × (Nat → Nat → Int64), (((0 ≤ (Int32.toInt (v'.2.1)) ∧ (Int32.toInt (v'.2.1)) ≤ 12)) ∧ (zI XT (v'.2.2.1)) ∧ ((v'.2.2.1) 0 13 = g0 0 13)) → 13 - (Int32.toInt (v'.2.1)) < 13 - (Int32.toInt v2) → 0 < 13 - (Int32.toInt v2) → Ex (k4 v') (fun (r : Int32) (g1 : Nat → Nat → Int32) (L1 : Nat → Nat → Int64) => zI XT g1 ∧ g1 0 13 = g0 0 13) := ih4
    show Ex (fX1_firstClash_8_s4 fu k4 v1 v2 g L) (fun (r : Int32) (g1 : Nat → Nat → Int32) (L1 : Nat → Nat → Int64) => zI XT g1 ∧ g1 0 13 = g0 0 13)
    unfold fX1_firstClash_8_s4
    have b1 : 0 ≤ (Int32.toInt (g 1 2)) ∧ (Int32.toInt (g 1 2)) ≤ 12 := hI 1 2 0 12 rfl
    refine Ex.ite (fun c2 => ?_) (fun c2 => ?_)
    ·
      have c2 := icc_le (m := (Int32.toInt (g 1 2))) (n := (Int32.toInt v2)) rfl rfl c2
      exact Ex.ret ⟨hI, k0_0⟩
    ·
      have c2 := icc_nle (m := (Int32.toInt (g 1 2))) (n := (Int32.toInt v2)) rfl rfl c2
      generalize z3q : (v2 + 1) = z3
      have e4 : (Int32.toInt z3) = (Int32.toInt v2) + 1 := by rw [← z3q]; exact ic_addc rfl (by decide) (by omega) (by omega)
      refine Ex.lti (fun x5 x5e x5i => ?_)
      have lp19 : ∀ (v1 : Int32) (v3 : Int32) (g : Nat → Nat → Int32) (L : Nat → Nat → Int64), (0 ≤ (Int32.toInt v2) ∧ (Int32.toInt v2) ≤ 11) → (1 ≤ (Int32.toInt v3) ∧ (Int32.toInt v3) ≤ 12) → zI XT g → g 0 13 = g0 0 13 → Ex (fX1_firstClash_8_l19 fu k4 v2 v1 v3 g L) (fun (r : Int32) (g1 : Nat → Nat → Int32) (L1 : Nat → Nat → Int64) => zI XT g1 ∧ g1 0 13 = g0 0 13) := by
        intro v1 v3 g L hb_v2 hb_v3 hI k0_0
        unfold fX1_firstClash_8_l19
        refine Ex.loop (fun v => ((0 ≤ (Int32.toInt v2) ∧ (Int32.toInt v2) ≤ 11)) ∧ ((1 ≤ (Int32.toInt (v.2.1)) ∧ (Int32.toInt (v.2.1)) ≤ 12)) ∧ (zI XT (v.2.2.1)) ∧ ((v.2.2.1) 0 13 = g0 0 13)) (fun v => 13 - (Int32.toInt (v.2.1))) (by omega) (by show 13 - (Int32.toInt v3) < (fu : Int); omega) ⟨hb_v2, hb_v3, hI, k0_0⟩ (fun k19 v hv ih19 => ?_)
        obtain ⟨v1, v3, g, L⟩ := v
        obtain ⟨hb_v2, hb_v3, hI, k0_0⟩ := hv
        have hb_v2 : (0 ≤ (Int32.toInt v2) ∧ (Int32.toInt v2) ≤ 11) := hb_v2
        have hb_v3 : (1 ≤ (Int32.toInt v3) ∧ (Int32.toInt v3) ≤ 12) := hb_v3
        have hI : zI XT g := hI
        have k0_0 : g 0 13 = g0 0 13 := k0_0
        have ih19 : ∀ v' : Int32 × Int32 × (Nat → Nat → Int32) × (Nat → Nat → Int64), (((0 ≤ (Int32.toInt v2) ∧ (Int32.toInt v2) ≤ 11)) ∧ ((1 ≤ (Int32.toInt (v'.2.1)) ∧ (Int32.toInt (v'.2.1)) ≤ 12)) ∧ (zI XT (v'.2.2.1)) ∧ ((v'.2.2.1) 0 13 = g0 0 13)) → 13 - (Int32.toInt (v'.2.1)) < 13 - (Int32.toInt v3) → 0 < 13 - (Int32.toInt v3) → Ex (k19 v') (fun (r : Int32) (g1 : Nat → Nat → Int32) (L1 : Nat → Nat → Int64) => zI XT g1 ∧ g1 0 13 = g0 0 13) := ih19
        show Ex (fX1_firstClash_8_s19 fu k4 v2 k19 v1 v3 g L) (fun (r : Int32) (g1 : Nat → Nat → Int32) (L1 : Nat → Nat → Int64) => zI XT g1 ∧ g1 0 13 = g0 0 13)
        unfold fX1_firstClash_8_s19
        have b6 : 0 ≤ (Int32.toInt (g 1 2)) ∧ (Int32.toInt (g 1 2)) ≤ 12 := hI 1 2 0 12 rfl
        refine Ex.ite (fun c7 => ?_) (fun c7 => ?_)
        ·
          have c7 := icc_le (m := (Int32.toInt (g 1 2))) (n := (Int32.toInt v3)) rfl rfl c7
          generalize z8q : (v2 + 1) = z8
          have e9 : (Int32.toInt z8) = (Int32.toInt v2) + 1 := by rw [← z8q]; exact ic_addc rfl (by decide) (by omega) (by omega)
          exact ih4 (v1, z8, g, L) ⟨(show (0 ≤ (Int32.toInt z8) ∧ (Int32.toInt z8) ≤ 12) from by omega), hI, k0_0⟩ (by show 13 - (Int32.toInt z8) < _; omega) (by omega)
        ·
          have c7 := icc_nle (m := (Int32.toInt (g 1 2))) (n := (Int32.toInt v3)) rfl rfl c7
          refine Ex.cb (sX1_clashOf_8 fu hfu v2 v3 g L hI (by omega) (by omega)) (fun x10 g11 L12 hq14 => ?_)
          obtain ⟨hI, kk0⟩ := hq14
          have hI : zI XT g11 := hI
          have k0_0 : g11 0 13 = g0 0 13 := kk0.trans k0_0
          have J58 : ∀ (v1 : Int32) (g : Nat → Nat → Int32) (L : Nat → Nat → Int64), (0 ≤ (Int32.toInt v2) ∧ (Int32.toInt v2) ≤ 11) → (1 ≤ (Int32.toInt v3) ∧ (Int32.toInt v3) ≤ 11) → zI XT g → g 0 13 = g0 0 13 → Ex (fX1_firstClash_8_p58 fu k4 k19 v1 v2 v3 g L) (fun (r : Int32) (g1 : Nat → Nat → Int32) (L1 : Nat → Nat → Int64) => zI XT g1 ∧ g1 0 13 = g0 0 13) := by
            intro v1 g L hb_v2 hb_v3 hI k0_0
            unfold fX1_firstClash_8_p58
            generalize z15q : (v3 + 1) = z15
            have e16 : (Int32.toInt z15) = (Int32.toInt v3) + 1 := by rw [← z15q]; exact ic_addc rfl (by decide) (by omega) (by omega)
            exact ih19 (v1, z15, g, L) ⟨(show (0 ≤ (Int32.toInt v2) ∧ (Int32.toInt v2) ≤ 11) from by omega), (show (1 ≤ (Int32.toInt z15) ∧ (Int32.toInt z15) ≤ 12) from by omega), hI, k0_0⟩ (by show 13 - (Int32.toInt z15) < _; omega) (by omega)
          refine Ex.ite (fun c17 => ?_) (fun c17 => ?_)
          ·
            have c17 := icc_eq (m := (Int32.toInt x10)) (n := (-1)) rfl (by decide) c17
            exact J58 v1 g11 L12 (by omega) (by omega) hI k0_0
          ·
            have c17 := icc_neq (m := (Int32.toInt x10)) (n := (-1)) rfl (by decide) c17
            have J55 : ∀ (v4 : Int32) (g : Nat → Nat → Int32) (L : Nat → Nat → Int64), (0 ≤ (Int32.toInt v2) ∧ (Int32.toInt v2) ≤ 11) → (1 ≤ (Int32.toInt v3) ∧ (Int32.toInt v3) ≤ 11) → zI XT g → g 0 13 = g0 0 13 → Ex (fX1_firstClash_8_p55 fu k4 k19 v2 v3 v4 g L) (fun (r : Int32) (g1 : Nat → Nat → Int32) (L1 : Nat → Nat → Int64) => zI XT g1 ∧ g1 0 13 = g0 0 13) := by
              intro v4 g L hb_v2 hb_v3 hI k0_0
              unfold fX1_firstClash_8_p55
              exact J58 v4 g L (by omega) (by omega) hI k0_0
            refine Ex.ite (fun c18 => ?_) (fun c18 => ?_)
            ·
              have c18 := icc_eq (m := (Int32.toInt v1)) (n := (-1)) rfl (by decide) c18
              exact J55 x10 g11 L12 (by omega) (by omega) hI k0_0
            ·
              have c18 := icc_neq (m := (Int32.toInt v1)) (n := (-1)) rfl (by decide) c18
              refine Ex.ite (fun c19 => ?_) (fun c19 => ?_)
              ·
                have c19 := icc_le (m := (Int32.toInt v1)) (n := (Int32.toInt x10)) rfl rfl c19
                exact J58 v1 g11 L12 (by omega) (by omega) hI k0_0
              ·
                have c19 := icc_nle (m := (Int32.toInt v1)) (n := (Int32.toInt x10)) rfl rfl c19
                exact J55 x10 g11 L12 (by omega) (by omega) hI k0_0
      exact lp19 v1 x5 g L (by omega) (by omega) hI k0_0
  exact lp4 (-1) 0 g0 L0 (by decide) hI k0_0
set_option maxHeartbeats 4000000 in
set_option maxRecDepth 100000 in
theorem sX1_idleMinutes_8 (fu : Nat) (hfu : 1180591620717411303424 ≤ fu) (g0 : Nat → Nat → Int32) (L0 : Nat → Nat → Int64) (hI : zI XT g0) : Ex (fX1_idleMinutes_8 fu g0 L0) (fun (r : Int32) (g1 : Nat → Nat → Int32) (L1 : Nat → Nat → Int64) => zI XT g1 ∧ g1 0 13 = g0 0 13) := by
  have k0_0 : g0 0 13 = g0 0 13 := rfl
  unfold fX1_idleMinutes_8
  have lp4 : ∀ (v1 : Int32) (v2 : Int32) (g : Nat → Nat → Int32) (L : Nat → Nat → Int64), (0 ≤ (Int32.toInt v2) ∧ (Int32.toInt v2) ≤ 12) → zI XT g → g 0 13 = g0 0 13 → Ex (fX1_idleMinutes_8_l4 fu v1 v2 g L) (fun (r : Int32) (g1 : Nat → Nat → Int32) (L1 : Nat → Nat → Int64) => zI XT g1 ∧ g1 0 13 = g0 0 13) := by
    intro v1 v2 g L hb_v2 hI k0_0
    unfold fX1_idleMinutes_8_l4
    refine Ex.loop (fun v => ((0 ≤ (Int32.toInt (v.2.1)) ∧ (Int32.toInt (v.2.1)) ≤ 12)) ∧ (zI XT (v.2.2.1)) ∧ ((v.2.2.1) 0 13 = g0 0 13)) (fun v => 13 - (Int32.toInt (v.2.1))) (by omega) (by show 13 - (Int32.toInt v2) < (fu : Int); omega) ⟨hb_v2, hI, k0_0⟩ (fun k4 v hv ih4 => ?_)
    obtain ⟨v1, v2, g, L⟩ := v
    obtain ⟨hb_v2, hI, k0_0⟩ := hv
    have hb_v2 : (0 ≤ (Int32.toInt v2) ∧ (Int32.toInt v2) ≤ 12) := hb_v2
    have hI : zI XT g := hI
    have k0_0 : g 0 13 = g0 0 13 := k0_0
    have ih4 : ∀ v' : Int32 × Int32 × (Nat → Nat → Int32) × (Nat → Nat → Int64), (((0 ≤ (Int32.toInt (v'.2.1)) ∧ (Int32.toInt (v'.2.1)) ≤ 12)) ∧ (zI XT (v'.2.2.1)) ∧ ((v'.2.2.1) 0 13 = g0 0 13)) → 13 - (Int32.toInt (v'.2.1)) < 13 - (Int32.toInt v2) → 0 < 13 - (Int32.toInt v2) → Ex (k4 v') (fun (r : Int32) (g1 : Nat → Nat → Int32) (L1 : Nat → Nat → Int64) => zI XT g1 ∧ g1 0 13 = g0 0 13) := ih4
    show Ex (fX1_idleMinutes_8_s4 fu k4 v1 v2 g L) (fun (r : Int32) (g1 : Nat → Nat → Int32) (L1 : Nat → Nat → Int64) => zI XT g1 ∧ g1 0 13 = g0 0 13)
    unfold fX1_idleMinutes_8_s4
    have b1 : 0 ≤ (Int32.toInt (g 1 2)) ∧ (Int32.toInt (g 1 2)) ≤ 12 := hI 1 2 0 12 rfl
    refine Ex.ite (fun c2 => ?_) (fun c2 => ?_)
    ·
      have c2 := icc_le (m := (Int32.toInt (g 1 2))) (n := (Int32.toInt v2)) rfl rfl c2
      exact Ex.ret ⟨hI, k0_0⟩
    ·
      have c2 := icc_nle (m := (Int32.toInt (g 1 2))) (n := (Int32.toInt v2)) rfl rfl c2
      refine Ex.ck (by omega) (by omega) ?_
      refine Ex.ltn (fun q3 q3e => ?_)
      have q3b : 57 ≤ q3 ∧ q3 < 69 := by have := Nat.mod_lt (Int32.toNatClampNeg v2) (show 12 > 0 by decide); omega
      have lp28 : ∀ (q3_ : Nat) (v1 : Int32) (v4 : Int32) (g : Nat → Nat → Int32) (L : Nat → Nat → Int64), (0 ≤ (Int32.toInt v2) ∧ (Int32.toInt v2) ≤ 11) → 57 ≤ q3_ → q3_ < 81 → (0 ≤ (Int32.toInt v4) ∧ (Int32.toInt v4) ≤ 6) → zI XT g → g 0 13 = g0 0 13 → Ex (fX1_idleMinutes_8_l28 fu k4 v2 q3_ v1 v4 g L) (fun (r : Int32) (g1 : Nat → Nat → Int32) (L1 : Nat → Nat → Int64) => zI XT g1 ∧ g1 0 13 = g0 0 13) := by
        intro q3_ v1 v4 g L hb_v2 q3_l q3_h hb_v4 hI k0_0
        unfold fX1_idleMinutes_8_l28
        refine Ex.loop (fun v => ((0 ≤ (Int32.toInt v2) ∧ (Int32.toInt v2) ≤ 11)) ∧ (57 ≤ q3_) ∧ (q3_ < 81) ∧ ((0 ≤ (Int32.toInt (v.2.1)) ∧ (Int32.toInt (v.2.1)) ≤ 6)) ∧ (zI XT (v.2.2.1)) ∧ ((v.2.2.1) 0 13 = g0 0 13)) (fun v => 7 - (Int32.toInt (v.2.1))) (by omega) (by show 7 - (Int32.toInt v4) < (fu : Int); omega) ⟨hb_v2, q3_l, q3_h, hb_v4, hI, k0_0⟩ (fun k28 v hv ih28 => ?_)
        obtain ⟨v1, v4, g, L⟩ := v
        obtain ⟨hb_v2, q3_l, q3_h, hb_v4, hI, k0_0⟩ := hv
        have hb_v2 : (0 ≤ (Int32.toInt v2) ∧ (Int32.toInt v2) ≤ 11) := hb_v2
        have q3_l : 57 ≤ q3_ := q3_l
        have q3_h : q3_ < 81 := q3_h
        have hb_v4 : (0 ≤ (Int32.toInt v4) ∧ (Int32.toInt v4) ≤ 6) := hb_v4
        have hI : zI XT g := hI
        have k0_0 : g 0 13 = g0 0 13 := k0_0
        have ih28 : ∀ v' : Int32 × Int32 × (Nat → Nat → Int32) × (Nat → Nat → Int64), (((0 ≤ (Int32.toInt v2) ∧ (Int32.toInt v2) ≤ 11)) ∧ (57 ≤ q3_) ∧ (q3_ < 81) ∧ ((0 ≤ (Int32.toInt (v'.2.1)) ∧ (Int32.toInt (v'.2.1)) ≤ 6)) ∧ (zI XT (v'.2.2.1)) ∧ ((v'.2.2.1) 0 13 = g0 0 13)) → 7 - (Int32.toInt (v'.2.1)) < 7 - (Int32.toInt v4) → 0 < 7 - (Int32.toInt v4) → Ex (k28 v') (fun (r : Int32) (g1 : Nat → Nat → Int32) (L1 : Nat → Nat → Int64) => zI XT g1 ∧ g1 0 13 = g0 0 13) := ih28
        show Ex (fX1_idleMinutes_8_s28 fu k4 v2 q3_ k28 v1 v4 g L) (fun (r : Int32) (g1 : Nat → Nat → Int32) (L1 : Nat → Nat → Int64) => zI XT g1 ∧ g1 0 13 = g0 0 13)
        unfold fX1_idleMinutes_8_s28
        have b4 : 0 ≤ (Int32.toInt (g q3_ 1)) ∧ (Int32.toInt (g q3_ 1)) ≤ 6 := hI q3_ 1 0 6 (xt_les (by omega) (by omega))
        refine Ex.ite (fun c5 => ?_) (fun c5 => ?_)
        ·
          have c5 := icc_le (m := (Int32.toInt (g q3_ 1))) (n := (Int32.toInt v4)) rfl rfl c5
          generalize z6q : (v2 + 1) = z6
          have e7 : (Int32.toInt z6) = (Int32.toInt v2) + 1 := by rw [← z6q]; exact ic_addc rfl (by decide) (by omega) (by omega)
          exact ih4 (v1, z6, g, L) ⟨(show (0 ≤ (Int32.toInt z6) ∧ (Int32.toInt z6) ≤ 12) from by omega), hI, k0_0⟩ (by show 13 - (Int32.toInt z6) < _; omega) (by omega)
        ·
          have c5 := icc_nle (m := (Int32.toInt (g q3_ 1))) (n := (Int32.toInt v4)) rfl rfl c5
          refine Ex.ck (by omega) (by omega) ?_
          have b8 : 0 ≤ (Int32.toInt (g (q3_ + 24) (Int32.toNatClampNeg v4))) ∧ (Int32.toInt (g (q3_ + 24) (Int32.toNatClampNeg v4))) ≤ 11 := hI (q3_ + 24) _ 0 11 (xt_wai (by omega))
          refine Ex.lti (fun x9 x9e x9i => ?_)
          refine Ex.ck (by omega) (by omega) ?_
          refine Ex.cb (sX1_way_8 fu hfu x9 v2 g L hI (by omega) (by omega)) (fun x10 g11 L12 hq14 => ?_)
          obtain ⟨hI, kk0, kk1⟩ := hq14
          have hI : zI XT g11 := hI
          have k0_0 : g11 0 13 = g0 0 13 := kk1.trans k0_0
          generalize z15q : ((g 44 (Int32.toNatClampNeg x9)) + x10) = z15
          refine Ex.ck (by omega) (by omega) ?_
          generalize z16q : (z15 - (g11 26 (Int32.toNatClampNeg v2))) = z16
          refine Ex.lti (fun x17 x17e x17i => ?_)
          refine Ex.ck (by omega) (by omega) ?_
          refine Ex.ltn (fun q18 q18e => ?_)
          have q18b : 57 ≤ q18 ∧ q18 < 69 := by have := Nat.mod_lt (Int32.toNatClampNeg x9) (show 12 > 0 by decide); omega
          refine Ex.ck (by omega) (by omega) ?_
          generalize z19q : ((g11 43 (Int32.toNatClampNeg v2)) - x17) = z19
          generalize z20q : (if 0 < z19 then z19 else 0) = z20
          have b21 := ic_max (x := 0) (y := z19) (m := 0) (n := (Int32.toInt z19)) (by decide) rfl
          rw [z20q] at b21
          generalize z22q : ((g11 q18 8) * z20) = z22
          generalize z23q : (v1 + z22) = z23
          refine Ex.lti (fun x24 x24e x24i => ?_)
          generalize z25q : (v4 + 1) = z25
          have e26 : (Int32.toInt z25) = (Int32.toInt v4) + 1 := by rw [← z25q]; exact ic_addc rfl (by decide) (by omega) (by omega)
          exact ih28 (x24, z25, g11, L12) ⟨(show (0 ≤ (Int32.toInt v2) ∧ (Int32.toInt v2) ≤ 11) from by omega), (show 57 ≤ q3_ from by omega), (show q3_ < 81 from by omega), (show (0 ≤ (Int32.toInt z25) ∧ (Int32.toInt z25) ≤ 6) from by omega), hI, k0_0⟩ (by show 7 - (Int32.toInt z25) < _; omega) (by omega)
      exact lp28 q3 v1 0 g L (by omega) (by omega) (by omega) (by decide) hI k0_0
  exact lp4 0 0 g0 L0 (by decide) hI k0_0
end
