/-! ===== what a day is ===== -/
/-- how many of the first n are at most v -/
def cn (c : Nat → Int) : Nat → Int → Nat
  | 0, _ => 0
  | n + 1, v => cn c n v + (if c n ≤ v then 1 else 0)
theorem cn_s {c : Nat → Int} {n : Nat} {v : Int} : cn c (n + 1) v = cn c n v + (if c n ≤ v then 1 else 0) := rfl
theorem cn_le {c : Nat → Int} {v : Int} : ∀ {n : Nat}, cn c n v ≤ n := by
  intro n
  induction n with
  | zero => exact Nat.le_refl _
  | succ n ih => rw [cn_s]; split <;> omega
theorem cn_c {c c' : Nat → Int} {v v' : Int} : ∀ {n : Nat}, (∀ k, k < n → (c k ≤ v ↔ c' k ≤ v')) → cn c n v = cn c' n v' := by
  intro n
  induction n with
  | zero => intro _; rfl
  | succ n ih =>
    intro h
    rw [cn_s, cn_s, ih (fun k hk => h k (by omega))]
    by_cases e : c n ≤ v
    · rw [if_pos e, if_pos ((h n (by omega)).mp e)]
    · rw [if_neg e, if_neg (fun e' => e ((h n (by omega)).mpr e'))]
theorem cn_all {c : Nat → Int} {v : Int} : ∀ {n : Nat}, (∀ k, k < n → c k ≤ v) → cn c n v = n := by
  intro n
  induction n with
  | zero => intro _; rfl
  | succ n ih => intro h; rw [cn_s, ih (fun k hk => h k (by omega)), if_pos (h n (by omega))]
theorem cn_mo {c : Nat → Int} {v w : Int} (hw : v ≤ w) : ∀ {n : Nat}, cn c n v ≤ cn c n w := by
  intro n
  induction n with
  | zero => exact Nat.le_refl _
  | succ n ih =>
    rw [cn_s, cn_s]
    by_cases e : c n ≤ v
    · rw [if_pos e, if_pos (by omega)]; omega
    · rw [if_neg e]; omega
theorem cn_max {c : Nat → Int} {w : Int} : ∀ {n : Nat}, 1 ≤ cn c n w → ∃ m, m < n ∧ c m ≤ w ∧ ∀ k, k < n → c k ≤ w → c k ≤ c m := by
  intro n
  induction n with
  | zero => intro h; exact absurd h (by show ¬ 1 ≤ 0; omega)
  | succ n ih =>
    intro h
    by_cases h1 : 1 ≤ cn c n w
    · obtain ⟨m, m1, m2, m3⟩ := ih h1
      by_cases e : c n ≤ w ∧ c m < c n
      · refine ⟨n, by omega, e.1, fun k hk hc => ?_⟩
        rcases (by omega : k < n ∨ k = n) with h | rfl
        · have := m3 k h hc; omega
        · omega
      · refine ⟨m, by omega, m2, fun k hk hc => ?_⟩
        rcases (by omega : k < n ∨ k = n) with h | rfl
        · exact m3 k h hc
        · omega
    · rw [cn_s] at h
      by_cases e : c n ≤ w
      · refine ⟨n, by omega, e, fun k hk hc => ?_⟩
        rcases (by omega : k < n ∨ k = n) with h' | rfl
        · exfalso
          have : ∀ {n : Nat}, k < n → 1 ≤ cn c n w := by
            intro n
            induction n with
            | zero => intro h; omega
            | succ n ih =>
              intro h
              rw [cn_s]
              rcases (by omega : k < n ∨ k = n) with h | rfl
              · have := ih h; omega
              · rw [if_pos hc]; omega
          exact h1 (this h')
        · omega
      · rw [if_neg e] at h
        omega
/-- the least by which k of n have come -/
def KTH (c : Nat → Int) (n k : Nat) (v : Int) : Prop := k ≤ cn c n v ∧ ∀ w, w < v → cn c n w < k
theorem kth_u {c : Nat → Int} {n k : Nat} {v v' : Int} (h : KTH c n k v) (h' : KTH c n k v') : v = v' := by
  rcases (by omega : v < v' ∨ v = v' ∨ v' < v) with e | e | e
  · have := h'.2 v e; have := h.1; omega
  · exact e
  · have := h.2 v' e; have := h'.1; omega
theorem kth_c {c c' : Nat → Int} {n k : Nat} {v : Int} (h : KTH c n k v) (e : ∀ i, i < n → c i = c' i) : KTH c' n k v := by
  refine ⟨?_, fun w hw => ?_⟩
  · rw [← cn_c (c := c) (v := v) (fun i hi => by rw [e i hi])]; exact h.1
  · rw [← cn_c (c := c) (v := w) (fun i hi => by rw [e i hi])]; exact h.2 w hw
def off (a b : Int32) : Int32 := if b ≤ a then a - b else b - a
def wy (d : gT) (j i : Nat) : Int32 := d 0 3 * off (d 12 (24 + j)) (d 12 (24 + i)) + (if (5 ≤ (d 12 (24 + j)).toInt ↔ 5 ≤ (d 12 (24 + i)).toInt) then 0 else (d 4 j + d 0 4 - 1) / d 0 4)
def wf0 (d : gT) (i k : Nat) : Nat := (d 9 (6 * i + k)).toInt.toNat
/-- when the k-th of those waited for comes -/
def cmg (d : gT) (en : Nat → Int32) (i k : Nat) : Int32 := en (wf0 d i k) + wy d (wf0 d i k) i - d 12 (12 + i)
def tl (d : gT) (b : Int32) (i : Nat) : Nat → Int32
  | 0 => d 12 i
  | 1 => b - d 1 i
  | 2 => b
  | 3 => d 12 (24 + i)
  | 4 => d 4 i
  | 5 => Int32.ofInt i
  | _ => 0
def clp (m v : Int32) : Int32 := if 0 ≤ v then (if v ≤ m then v else m) else 0
def stb (x : Int32) (i : Nat) : Int32 := (x >>> (Int32.ofInt i &&& 31)) &&& 1
/-- by how much it runs over -/
def ov (cs : Nat → List Int) (d : gT) (i : Nat) (b : Int32) : Int32 := if stb (d 0 60) i = 1 then 0 else clp (if d 0 61 = Int32.ofInt i then 180 else 60) (if d 0 52 = -1 then d 12 i else ev (tl d b i) (cs (d 0 52).toInt.toNat) 0 (fun _ => 0))
def FC (d : gT) (en : Nat → Int32) (i : Nat) (v y : Int32) : Prop := ∃ k, k < (d 8 i).toInt.toNat ∧ y = d 9 (6 * i + k) ∧ cmg d en i k = v ∧ ∀ m, m < k → cmg d en i m ≠ v
def LB (d : gT) (en : Nat → Int32) (i : Nat) (b y : Int32) : Prop :=
  ((d 5 i).toInt = 2 ∧ b = d 1 i ∧ y = -1) ∨
  ((d 5 i).toInt ≠ 2 ∧ ∃ v : Int32, KTH (fun k => (cmg d en i k).toInt) (d 8 i).toInt.toNat (if (d 5 i).toInt = 0 then d 8 i else d 6 i).toInt.toNat v.toInt ∧
    ((v.toInt ≤ (d 1 i).toInt ∧ b = d 1 i ∧ y = -1) ∨ ((d 1 i).toInt < v.toInt ∧ (d 1 i + d 12 (36 + i)).toInt < v.toInt ∧ b = d 1 i + d 12 (36 + i) ∧ y = -1) ∨ ((d 1 i).toInt < v.toInt ∧ v.toInt ≤ (d 1 i + d 12 (36 + i)).toInt ∧ b = v ∧ FC d en i v y)))
def LD (cs : Nat → List Int) (d : gT) (bg en ru by_ : Nat → Int32) (i : Nat) : Prop := LB d en i (bg i) (by_ i) ∧ ru i = ov cs d i (bg i) ∧ en i = (if d 2 i < bg i + d 3 i then bg i + d 3 i else d 2 i) + ru i
def DY (cs : Nat → List Int) (d : gT) (n : Nat) (bg en ru by_ : Nat → Int32) : Prop := ∀ i, i < n → LD cs d bg en ru by_ i
/-- who waits: for all, for so many, for none; for lessons ahead -/
def WF (n : Nat) (d : gT) : Prop := ∀ i, i < n → ((d 5 i).toInt = 2 → (d 8 i).toInt = 0) ∧ ((d 5 i).toInt ≠ 2 → 1 ≤ (d 8 i).toInt ∧ ((d 5 i).toInt = 0 ∨ ((d 5 i).toInt = 1 ∧ 1 ≤ (d 6 i).toInt ∧ (d 6 i).toInt ≤ (d 8 i).toInt))) ∧ (∀ k : Nat, (k : Int) < (d 8 i).toInt → 0 ≤ (d 9 (6 * i + k)).toInt ∧ (d 9 (6 * i + k)).toInt < (i : Int))
theorem cmg_c {d : gT} {en en' : Nat → Int32} {i k : Nat} (h : en (wf0 d i k) = en' (wf0 d i k)) : cmg d en i k = cmg d en' i k := by unfold cmg; rw [h]
theorem wf_lt {n i k : Nat} {d : gT} (h : WF n d) (hi : i < n) (hk : k < (d 8 i).toInt.toNat) : wf0 d i k < i := by
  have := (h i hi).2.2 k (by omega)
  unfold wf0; omega
theorem FC.c {d : gT} {en en' : Nat → Int32} {n i : Nat} {v y : Int32} (hW : WF n d) (hi : i < n) (h : FC d en i v y) (e : ∀ j, j < i → en j = en' j) : FC d en' i v y := by
  obtain ⟨k, k1, k2, k3, k4⟩ := h
  refine ⟨k, k1, k2, ?_, fun m hm => ?_⟩
  · rw [← cmg_c (e _ (wf_lt hW hi k1))]; exact k3
  · rw [← cmg_c (e _ (wf_lt hW hi (by omega)))]; exact k4 m hm
theorem LB.c {d : gT} {en en' : Nat → Int32} {n i : Nat} {b y : Int32} (hW : WF n d) (hi : i < n) (h : LB d en i b y) (e : ∀ j, j < i → en j = en' j) : LB d en' i b y := by
  rcases h with h | ⟨h1, v, h2, h3⟩
  · exact Or.inl h
  · refine Or.inr ⟨h1, v, kth_c h2 (fun k hk => by rw [cmg_c (e _ (wf_lt hW hi hk))]), ?_⟩
    rcases h3 with h3 | h3 | ⟨a, c, f, k⟩
    · exact Or.inl h3
    · exact Or.inr (Or.inl h3)
    · exact Or.inr (Or.inr ⟨a, c, f, k.c hW hi e⟩)
theorem LB.u {d : gT} {en : Nat → Int32} {n i : Nat} {b y b' y' : Int32} (hW : WF n d) (hi : i < n) (h : LB d en i b y) (h' : LB d en i b' y') : b = b' ∧ y = y' := by
  rcases h with ⟨h1, h2, h3⟩ | ⟨h1, v, h2, h3⟩
  · rcases h' with ⟨-, e2, e3⟩ | ⟨e1, -⟩
    · exact ⟨by rw [h2, e2], by rw [h3, e3]⟩
    · exact absurd h1 e1
  · rcases h' with ⟨e1, -⟩ | ⟨-, v', e2, e3⟩
    · exact absurd e1 h1
    · obtain rfl : v = v' := ic_eq.mpr (kth_u h2 e2)
      rcases h3 with ⟨a, c, f⟩ | ⟨a, c, f, k⟩ | ⟨a, c, f, k⟩
      · rcases e3 with ⟨a', c', f'⟩ | ⟨a', c', f', k'⟩ | ⟨a', c', f', k'⟩
        · exact ⟨by rw [c, c'], by rw [f, f']⟩
        · omega
        · omega
      · rcases e3 with ⟨a', c', f'⟩ | ⟨a', c', f', k'⟩ | ⟨a', c', f', k'⟩
        · omega
        · exact ⟨by rw [f, f'], by rw [k, k']⟩
        · omega
      · rcases e3 with ⟨a', c', f'⟩ | ⟨a', c', f', k'⟩ | ⟨a', c', f', k'⟩
        · omega
        · omega
        · refine ⟨by rw [f, f'], ?_⟩
          obtain ⟨k, k1, k2, k3, k4⟩ := k
          obtain ⟨m, m1, m2, m3, m4⟩ := k'
          rcases (by omega : k < m ∨ k = m ∨ m < k) with e | e | e
          · exact absurd k3 (m4 k e)
          · rw [k2, m2, e]
          · exact absurd m3 (k4 m e)
/-- a day is one -/
theorem DY.u {cs : Nat → List Int} {d : gT} {n : Nat} {bg en ru by_ bg' en' ru' by' : Nat → Int32} (hW : WF n d) (h : DY cs d n bg en ru by_) (h' : DY cs d n bg' en' ru' by') : ∀ i, i < n → bg i = bg' i ∧ en i = en' i ∧ ru i = ru' i ∧ by_ i = by' i := by
  intro i
  induction i using Nat.strongRecOn with
  | _ i ih =>
    intro hi
    obtain ⟨a1, a2, a3⟩ := h i hi
    obtain ⟨b1, b2, b3⟩ := h' i hi
    have a1 := a1.c hW hi (fun j hj => (ih j hj (by omega)).2.1)
    obtain ⟨e1, e2⟩ := a1.u hW hi b1
    have e3 : ru i = ru' i := by rw [a2, b2, e1]
    refine ⟨e1, ?_, e3, e2⟩
    rw [a3, b3, e1, e3]
theorem LD.c {cs : Nat → List Int} {d : gT} {n i : Nat} {bg en ru by_ bg' en' ru' by' : Nat → Int32} (hW : WF n d) (hi : i < n) (h : LD cs d bg en ru by_ i) (e : ∀ j, j ≤ i → en j = en' j) (e1 : bg i = bg' i) (e2 : ru i = ru' i) (e3 : by_ i = by' i) : LD cs d bg' en' ru' by' i := by
  obtain ⟨a1, a2, a3⟩ := h
  refine ⟨?_, ?_, ?_⟩
  · rw [← e1, ← e3]; exact a1.c hW hi (fun j hj => e j (by omega))
  · rw [← e1, ← e2]; exact a2
  · rw [← e i (Nat.le_refl _), ← e1, ← e2]; exact a3
