/-! ===== the data of class and reference ===== -/
def wSn (gm : gT) (i : Nat) : Nat → Int32
  | 0 => 0
  | k + 1 => wSn gm i k ||| ((1 : Int32) <<< (gm 9 (6 * i + k) &&& 31))
theorem wSn_c {gm g2 : gT} {i : Nat} (h : g2 9 = gm 9) : ∀ k, wSn g2 i k = wSn gm i k := by
  intro k
  induction k with
  | zero => rfl
  | succ k ih => show wSn g2 i k ||| _ = wSn gm i k ||| _; rw [ih, h]
theorem wSn_m {gm : gT} {i : Nat} {acc : List Int} (h : ∀ j (hj : j < acc.length), (gm 9 (6 * i + j)).toInt = acc[j]) : ∀ k, k ≤ acc.length → wSn gm i k = mW (acc.take k) := by
  intro k
  induction k with
  | zero => intro _; rfl
  | succ k ih =>
    intro hk
    have e : acc.take (k + 1) = acc.take k ++ [(gm 9 (6 * i + k)).toInt] := by
      rw [h k (by omega)]
      exact (List.take_append_getElem (by omega)).symm
    rw [e, mW_ap, ← ih (by omega)]; rfl
/-- a lesson -/
def LC (i : Nat) (g gm : gT) : Prop := (g (57 + i) 3 = gm 1 i ∧ g (57 + i) 4 = gm 2 i ∧ g (57 + i) 5 = gm 3 i ∧ g (57 + i) 8 = gm 4 i) ∧ (g (57 + i) 9 = gm 5 i ∧ g (57 + i) 10 = gm 6 i ∧ g (57 + i) 12 = gm 7 i ∧ g (57 + i) 1 = gm 8 i) ∧ g (57 + i) 2 = wSn gm i (gm 8 i).toInt.toNat ∧ ∀ k : Nat, (k : Int) < (gm 8 i).toInt → g (81 + i) k = gm 9 (6 * i + k)
/-- what is held of a lesson -/
def HC (i a c : Nat) (g gm : gT) : Prop := g a i = gm c i ∧ g (a + 1) i = gm c (12 + i) ∧ g (a + 2) i = gm c (24 + i) ∧ g (a + 3) i = gm c (36 + i)
/-- acts -/
def AC (m : Int) (a c : Nat) (g gm : gT) : Prop := ∀ k : Nat, (k : Int) < m → (((g a k).toInt = 4 ∧ (gm c (2 * k)).toInt = 48) ∨ ((0 ≤ (g a k).toInt ∧ (g a k).toInt ≤ 3) ∧ (0 ≤ (g (a + 1) k).toInt ∧ (g (a + 1) k).toInt ≤ 11) ∧ (gm c (2 * k)).toInt = 12 * (g a k).toInt + (g (a + 1) k).toInt)) ∧ g (a + 2) k = gm c (2 * k + 1)
/-- sightings -/
def SC (m : Int) (a c : Nat) (g gm : gT) : Prop := ∀ k : Nat, (k : Int) < m → g a k = gm c (2 * k) ∧ g (a + 1) k = gm c (2 * k + 1)
/-- rules -/
def RC (m : Nat) (g gm : gT) : Prop := ∃ (cs : Nat → List Int) (o p : Nat → Nat), (∀ r, r ≤ m → (g 20 r).toInt = (o r : Int)) ∧ ∀ r, r < m → o (r + 1) = o r + (cs r).length ∧ (∀ i, i < (cs r).length → (g 19 (o r + i)).toInt = (cs r).getD i 0) ∧ (gm 10 r).toInt = (p r : Int) ∧ (∀ i (hi : i < (enc (cs r) ++ [0]).length), (gm 11 (p r + i)).toInt = (enc (cs r) ++ [0])[i]) ∧ rp (cs r) 0 1
/-- an image -/
def IC (g gm : gT) : Prop := (∀ i : Nat, (i : Int) < (gm 0 1).toInt → HC i 34 48 g gm) ∧ g 7 11 = gm 0 82 ∧ AC (gm 0 83).toInt 38 49 g gm ∧ SC (gm 0 84).toInt 41 50 g gm
/-- what is held -/
def HD (g gm : gT) : Prop := (∀ i : Nat, (i : Int) < (gm 0 1).toInt → HC i 25 12 g gm) ∧ g 6 11 = gm 0 52 ∧ AC (gm 0 62).toInt 29 36 g gm ∧ SC (gm 0 73).toInt 32 43 g gm
/-- the plan -/
def PD (g gm : gT) : Prop := (∀ i : Nat, (i : Int) < (gm 0 1).toInt → LC i g gm) ∧ g 1 3 = gm 0 3 ∧ g 1 4 = gm 0 4 ∧ RC (gm 0 2).toInt.toNat g gm
/-- everybody runs over, nobody by more -/
def FD (g gm : gT) : Prop := g 8 8 = -1 ∧ g 8 9 = -1 ∧ gm 0 60 = 0 ∧ gm 0 61 = -1
def CD (g gm : gT) : Prop := PD g gm ∧ HD g gm ∧ (¬ gm 0 81 = 0 → IC g gm) ∧ (∀ j, j < 3 → g 15 j = gm 14 j) ∧ FD g gm
abbrev pcX : List Nat := [19, 20, 57, 58, 59, 60, 61, 62, 63, 64, 65, 66, 67, 68, 81, 82, 83, 84, 85, 86, 87, 88, 89, 90, 91, 92]
abbrev pcM : List Nat := [1, 2, 3, 4, 5, 6, 7, 8, 9, 10, 11]
theorem pcX_m : ∀ i, i < 12 → 57 + i ∈ pcX ∧ 81 + i ∈ pcX := by decide
theorem LC.c {i : Nat} {g gm g1 g2 : gT} (h : LC i g gm) (h1 : g1 (57 + i) = g (57 + i)) (h2 : g1 (81 + i) = g (81 + i)) (hm : ∀ k, 1 ≤ k → k ≤ 9 → g2 k = gm k) : LC i g1 g2 := by
  obtain ⟨⟨y1, y2, y3, y4⟩, ⟨y5, y6, y7, y8⟩, y9, y10⟩ := h
  have m8 := hm 8 (by decide) (by decide)
  have m9 := hm 9 (by decide) (by decide)
  refine ⟨⟨?_, ?_, ?_, ?_⟩, ⟨?_, ?_, ?_, ?_⟩, ?_, fun k hk => ?_⟩
  · rw [h1, hm 1 (by decide) (by decide)]; exact y1
  · rw [h1, hm 2 (by decide) (by decide)]; exact y2
  · rw [h1, hm 3 (by decide) (by decide)]; exact y3
  · rw [h1, hm 4 (by decide) (by decide)]; exact y4
  · rw [h1, hm 5 (by decide) (by decide)]; exact y5
  · rw [h1, hm 6 (by decide) (by decide)]; exact y6
  · rw [h1, hm 7 (by decide) (by decide)]; exact y7
  · rw [h1, m8]; exact y8
  · rw [h1, m8, wSn_c m9]; exact y9
  · rw [m8] at hk
    rw [h2, m9]; exact y10 k hk
theorem HC.c {i a c : Nat} {g gm g1 g2 : gT} (h : HC i a c g gm) (h0 : g1 a = g a) (h1 : g1 (a + 1) = g (a + 1)) (h2 : g1 (a + 2) = g (a + 2)) (h3 : g1 (a + 3) = g (a + 3)) (hm : g2 c = gm c) : HC i a c g1 g2 := by
  unfold HC
  rw [h0, h1, h2, h3, hm]; exact h
theorem AC.c {m : Int} {a c : Nat} {g gm g1 g2 : gT} (h : AC m a c g gm) (h0 : g1 a = g a) (h1 : g1 (a + 1) = g (a + 1)) (h2 : g1 (a + 2) = g (a + 2)) (hm : g2 c = gm c) : AC m a c g1 g2 := by
  unfold AC
  rw [h0, h1, h2, hm]; exact h
theorem SC.c {m : Int} {a c : Nat} {g gm g1 g2 : gT} (h : SC m a c g gm) (h0 : g1 a = g a) (h1 : g1 (a + 1) = g (a + 1)) (hm : g2 c = gm c) : SC m a c g1 g2 := by
  unfold SC
  rw [h0, h1, hm]; exact h
theorem RC.c {m : Nat} {g gm g1 g2 : gT} (h : RC m g gm) (h0 : g1 20 = g 20) (h1 : g1 19 = g 19) (h2 : g2 10 = gm 10) (h3 : g2 11 = gm 11) : RC m g1 g2 := by
  unfold RC
  rw [h0, h1, h2, h3]; exact h
/-- nothing of the plan is written -/
theorem PD.f {A A' : List (Nat × Nat)} {B B' : List Nat} {g gm g1 g2 : gT} (hI : zI MT gm) (h : PD g gm) (f1 : FW A B g g1) (f2 : FW A' B' gm g2) (o1 : okw pcX [(1, 3), (1, 4)] A B = true) (o2 : okw pcM [(0, 1), (0, 2), (0, 3), (0, 4)] A' B' = true) : PD g1 g2 := by
  obtain ⟨y1, y2, y3, y4⟩ := h
  have q1 := hI 0 1 0 12 rfl
  have e1 : g2 0 1 = gm 0 1 := okw_f o2 f2 (by decide)
  have e2 : g2 0 2 = gm 0 2 := okw_f o2 f2 (by decide)
  refine ⟨fun i hi => ?_, ?_, ?_, ?_⟩
  · rw [e1] at hi
    have hm := pcX_m i (by omega)
    refine (y1 i hi).c (okw_c o1 f1 hm.1) (okw_c o1 f1 hm.2) (fun k a c => okw_c o2 f2 ?_)
    rcases (by omega : k = 1 ∨ k = 2 ∨ k = 3 ∨ k = 4 ∨ k = 5 ∨ k = 6 ∨ k = 7 ∨ k = 8 ∨ k = 9) with rfl | rfl | rfl | rfl | rfl | rfl | rfl | rfl | rfl <;> decide
  · rw [okw_f (k := 1) (j := 3) o1 f1 (by decide), okw_f (k := 0) (j := 3) o2 f2 (by decide)]; exact y2
  · rw [okw_f (k := 1) (j := 4) o1 f1 (by decide), okw_f (k := 0) (j := 4) o2 f2 (by decide)]; exact y3
  · rw [e2]
    exact y4.c (okw_c o1 f1 (by decide)) (okw_c o1 f1 (by decide)) (okw_c o2 f2 (by decide)) (okw_c o2 f2 (by decide))
/-- nothing of what is held is written -/
theorem HD.f {A A' : List (Nat × Nat)} {B B' : List Nat} {g gm g1 g2 : gT} (h : HD g gm) (f1 : FW A B g g1) (f2 : FW A' B' gm g2) (o1 : okw [25, 26, 27, 28, 29, 30, 31, 32, 33] [(6, 11)] A B = true) (o2 : okw [12, 36, 43] [(0, 1), (0, 52), (0, 62), (0, 73)] A' B' = true) : HD g1 g2 := by
  obtain ⟨y1, y2, y3, y4⟩ := h
  have e1 : g2 0 1 = gm 0 1 := okw_f o2 f2 (by decide)
  have e62 : g2 0 62 = gm 0 62 := okw_f o2 f2 (by decide)
  have e73 : g2 0 73 = gm 0 73 := okw_f o2 f2 (by decide)
  refine ⟨fun i hi => ?_, ?_, ?_, ?_⟩
  · rw [e1] at hi
    exact (y1 i hi).c (okw_c o1 f1 (by decide)) (okw_c o1 f1 (by decide)) (okw_c o1 f1 (by decide)) (okw_c o1 f1 (by decide)) (okw_c o2 f2 (by decide))
  · rw [okw_f (k := 6) (j := 11) o1 f1 (by decide), okw_f (k := 0) (j := 52) o2 f2 (by decide)]; exact y2
  · rw [e62]; exact y3.c (okw_c o1 f1 (by decide)) (okw_c o1 f1 (by decide)) (okw_c o1 f1 (by decide)) (okw_c o2 f2 (by decide))
  · rw [e73]; exact y4.c (okw_c o1 f1 (by decide)) (okw_c o1 f1 (by decide)) (okw_c o2 f2 (by decide))
theorem IC.f {A A' : List (Nat × Nat)} {B B' : List Nat} {g gm g1 g2 : gT} (h : IC g gm) (f1 : FW A B g g1) (f2 : FW A' B' gm g2) (o1 : okw [34, 35, 36, 37, 38, 39, 40, 41, 42] [(7, 11)] A B = true) (o2 : okw [48, 49, 50] [(0, 1), (0, 81), (0, 82), (0, 83), (0, 84)] A' B' = true) : IC g1 g2 := by
  obtain ⟨y1, y2, y3, y4⟩ := h
  have e1 : g2 0 1 = gm 0 1 := okw_f o2 f2 (by decide)
  have e62 : g2 0 83 = gm 0 83 := okw_f o2 f2 (by decide)
  have e73 : g2 0 84 = gm 0 84 := okw_f o2 f2 (by decide)
  refine ⟨fun i hi => ?_, ?_, ?_, ?_⟩
  · rw [e1] at hi
    exact (y1 i hi).c (okw_c o1 f1 (by decide)) (okw_c o1 f1 (by decide)) (okw_c o1 f1 (by decide)) (okw_c o1 f1 (by decide)) (okw_c o2 f2 (by decide))
  · rw [okw_f (k := 7) (j := 11) o1 f1 (by decide), okw_f (k := 0) (j := 82) o2 f2 (by decide)]; exact y2
  · rw [e62]; exact y3.c (okw_c o1 f1 (by decide)) (okw_c o1 f1 (by decide)) (okw_c o1 f1 (by decide)) (okw_c o2 f2 (by decide))
  · rw [e73]; exact y4.c (okw_c o1 f1 (by decide)) (okw_c o1 f1 (by decide)) (okw_c o2 f2 (by decide))
theorem FD.f {A A' : List (Nat × Nat)} {B B' : List Nat} {g gm g1 g2 : gT} (h : FD g gm) (f1 : FW A B g g1) (f2 : FW A' B' gm g2) (o1 : okw [] [(8, 8), (8, 9)] A B = true) (o2 : okw [] [(0, 60), (0, 61)] A' B' = true) : FD g1 g2 := by
  unfold FD
  rw [okw_f (k := 8) (j := 8) o1 f1 (by decide), okw_f (k := 8) (j := 9) o1 f1 (by decide), okw_f (k := 0) (j := 60) o2 f2 (by decide), okw_f (k := 0) (j := 61) o2 f2 (by decide)]; exact h
theorem ref_f {A A' : List (Nat × Nat)} {B B' : List Nat} {g gm g1 g2 : gT} (h : ∀ j, j < 3 → g 15 j = gm 14 j) (f1 : FW A B g g1) (f2 : FW A' B' gm g2) (o1 : okw [15] [] A B = true) (o2 : okw [14] [] A' B' = true) : ∀ j, j < 3 → g1 15 j = g2 14 j := by
  rw [okw_c (k := 15) o1 f1 (by decide), okw_c (k := 14) o2 f2 (by decide)]; exact h
/-- nothing of the data is written -/
abbrev okDX (A : List (Nat × Nat)) (B : List Nat) : Bool := okw pcX [(1, 3), (1, 4)] A B && okw [25, 26, 27, 28, 29, 30, 31, 32, 33] [(6, 11)] A B && okw [34, 35, 36, 37, 38, 39, 40, 41, 42] [(7, 11)] A B && okw [] [(8, 8), (8, 9)] A B && okw [15] [] A B
abbrev okDM (A : List (Nat × Nat)) (B : List Nat) : Bool := okw pcM [(0, 1), (0, 2), (0, 3), (0, 4)] A B && okw [12, 36, 43] [(0, 1), (0, 52), (0, 62), (0, 73)] A B && okw [48, 49, 50] [(0, 1), (0, 81), (0, 82), (0, 83), (0, 84)] A B && okw [] [(0, 60), (0, 61)] A B && okw [14] [] A B
theorem b_and {a b : Bool} (h : (a && b) = true) : a = true ∧ b = true := Bool.and_eq_true_iff.mp h
theorem cd_fr {A A' : List (Nat × Nat)} {B B' : List Nat} {g gm g1 g2 : gT} (hI : zI MT gm) (h : CD g gm) (f1 : FW A B g g1) (f2 : FW A' B' gm g2) (o1 : okDX A B = true) (o2 : okDM A' B' = true) : CD g1 g2 := by
  obtain ⟨y1, y2, y3, y4, y5⟩ := h
  obtain ⟨o1, o15⟩ := b_and o1
  obtain ⟨o1, o14⟩ := b_and o1
  obtain ⟨o1, o13⟩ := b_and o1
  obtain ⟨o11, o12⟩ := b_and o1
  obtain ⟨o2, o25⟩ := b_and o2
  obtain ⟨o2, o24⟩ := b_and o2
  obtain ⟨o2, o23⟩ := b_and o2
  obtain ⟨o21, o22⟩ := b_and o2
  refine ⟨y1.f hI f1 f2 o11 o21, y2.f f1 f2 o12 o22, fun h => ?_, ref_f y4 f1 f2 o15 o25, y5.f f1 f2 o14 o24⟩
  rw [okw_f (k := 0) (j := 81) o23 f2 (by decide)] at h
  exact (y3 h).f f1 f2 o13 o23
