/-! ===== the days of class and reference are one ===== -/
/-- rooms -/
def RR (d : gT) : Prop := ∀ i : Nat, (i : Int) < (d 0 1).toInt → 0 ≤ (d 12 (24 + i)).toInt ∧ (d 12 (24 + i)).toInt ≤ 9
theorem stb_1 : ∀ i : Nat, i < 12 → ¬ stb (-1) i = 0 := by decide
theorem stb_0 : ∀ i : Nat, i < 12 → ¬ stb 0 i = 1 := by decide
theorem dc_of {g d : gT} (hp : CP g d) (h : CD g d) (hw : WF (d 0 1).toInt.toNat d) (hr : RR d) : ∃ cs, DC cs (d 0 1).toInt.toNat g d ∧ MD cs (d 0 1).toInt.toNat d := by
  obtain ⟨-, hI, hJ, -, -, -, ⟨k1, k2, -⟩, -⟩ := hp
  obtain ⟨⟨d1, d2, d3, cs, o, p, r1, r2⟩, ⟨u1, u2, -⟩, -, -, f1, f2, f3, f4⟩ := h
  have q1 := hI 0 1 0 12 rfl
  have q2 := hI 0 2 0 4 rfl
  have q4 := hI 0 4 1 99 rfl
  have q52 := hI 0 52 (-1) 3 rfl
  have j52 := hJ.2.1
  have l8 : ∀ i, 0 ≤ (d 8 i).toInt ∧ (d 8 i).toInt ≤ 6 := fun i => hI 8 i 0 6 rfl
  have c52 : d 0 52 = -1 ∨ (0 ≤ (d 0 52).toInt ∧ (d 0 52).toInt < (d 0 2).toInt) := by
    by_cases c : (d 0 52).toInt = -1
    · exact Or.inl (ic_eq.mpr c)
    · exact Or.inr (by omega)
  refine ⟨cs, ⟨⟨by rw [k1]; omega, by omega⟩, fun i hi => ⟨d1 i (by omega), u1 i (by omega)⟩, ⟨d2, d3, q4.1⟩, hw, fun i hi => ⟨hr i (by omega), l8 i⟩, ⟨u2, by rw [k2]; exact c52⟩, fun r hr => ?_, fun i hi => ?_, by rw [f2, f4]⟩, ⟨⟨by omega, by omega⟩, hw, fun i _ => l8 i, ?_⟩⟩
  · rw [k2] at hr
    obtain ⟨a1, a2, -, -, a5⟩ := r2 r (by omega)
    exact ⟨o r, r1 r (by omega), by rw [r1 (r + 1) (by omega), a1]; omega, At_d a2, a5⟩
  · rw [f1, f3]
    exact ⟨fun h => absurd h (stb_1 i (by omega)), fun h => absurd h (stb_0 i (by omega))⟩
  · rcases c52 with c | c
    · exact Or.inl c
    · obtain ⟨-, -, a3, a4, a5⟩ := r2 (d 0 52).toInt.toNat (by omega)
      exact Or.inr ⟨(d 0 52).toInt.toNat, p (d 0 52).toInt.toNat, by omega, a3, At_i a4, a5⟩
/-- but for what was thrown -/
def E0 (d e : gT) : Prop := ∀ k j, ¬ (k = 0 ∧ j = 0) → e k j = d k j
theorem E0.k {d e : gT} (h : E0 d e) {k : Nat} (hk : k ≠ 0) : e k = d k := funext fun j => h k j (fun x => hk x.1)
theorem DC.d {cs : Nat → List Int} {n : Nat} {g d e : gT} (h : DC cs n g d) (he : E0 d e) : DC cs n g e := by
  obtain ⟨a1, a3, a4, a5, a6, a7, a8, a9, a10⟩ := h
  have w : WF n e := by
    unfold WF
    rw [he.k (show 5 ≠ 0 by decide), he.k (show 8 ≠ 0 by decide), he.k (show 6 ≠ 0 by decide), he.k (show 9 ≠ 0 by decide)]
    exact a5
  have h3 : e 0 3 = d 0 3 := he 0 3 (fun x => absurd x.2 (by decide))
  have h4 : e 0 4 = d 0 4 := he 0 4 (fun x => absurd x.2 (by decide))
  have h52 : e 0 52 = d 0 52 := he 0 52 (fun x => absurd x.2 (by decide))
  have h60 : e 0 60 = d 0 60 := he 0 60 (fun x => absurd x.2 (by decide))
  have h61 : e 0 61 = d 0 61 := he 0 61 (fun x => absurd x.2 (by decide))
  refine ⟨a1, fun i hi => ⟨(a3 i hi).1.c rfl rfl (fun k x _ => he.k (by omega)), (a3 i hi).2.c rfl rfl rfl rfl (he.k (by decide))⟩, ?_, w, ?_, ?_, a8, ?_, ?_⟩
  · rw [h3, h4]; exact a4
  · rw [he.k (show 12 ≠ 0 by decide), he.k (show 8 ≠ 0 by decide)]; exact a6
  · rw [h52]; exact a7
  · rw [h60]; exact a9
  · rw [h61]; exact a10
theorem MD.d {cs : Nat → List Int} {n : Nat} {d e : gT} (h : MD cs n d) (he : E0 d e) : MD cs n e := by
  obtain ⟨a1, a2, a3, a4⟩ := h
  unfold MD WF
  rw [he.k (show 5 ≠ 0 by decide), he.k (show 8 ≠ 0 by decide), he.k (show 6 ≠ 0 by decide), he.k (show 9 ≠ 0 by decide), he.k (show 10 ≠ 0 by decide), he.k (show 11 ≠ 0 by decide), he 0 1 (fun x => absurd x.2 (by decide)), he 0 52 (fun x => absurd x.2 (by decide))]
  exact ⟨a1, a2, a3, a4⟩
/-- the same day, in both -/
def SD (n : Nat) (g gm : gT) : Prop := ∀ i, i < n → g 43 i = gm 31 i ∧ g 44 i = gm 32 i ∧ g 45 i = gm 33 i ∧ g 46 i = gm 34 i
theorem days {cs : Nat → List Int} {n fu fv : Nat} {g d g1 g2 : gT} {L Lm L1 L2 : lT} {x y : Unit} (hX : DC cs n g d) (hM : MD cs n d) (e1 : fX1_runFrom_8 fu 0 g L = some (x, (g1, L1))) (e2 : fX12_works0 fv d Lm = some (y, (g2, L2))) : SD n g1 g2 := by
  have a := rf_x hX (f := 0) rfl (Nat.zero_le _) x g1 L1 e1
  have b := wk_m hM y g2 L2 e2
  exact DY.u hX.2.2.2.1 (fun i hi => a.1 i (Nat.zero_le _) hi) b.1
