/-! ===== tokens, as functions of the bytes ===== -/
def kd (c : Int) : Int := if 97 ≤ c ∧ c ≤ 122 then 2 else if 48 ≤ c ∧ c ≤ 57 then 1 else if c = 59 ∨ c = 40 ∨ c = 41 ∨ c = 43 ∨ c = 45 ∨ c = 42 ∨ c = 47 ∨ c = 60 ∨ c = 61 then 3 else 4
theorem kd_l {c : Int} (h : 97 ≤ c ∧ c ≤ 122) : kd c = 2 := if_pos h
theorem kd_d {c : Int} (h : 48 ≤ c ∧ c ≤ 57) : kd c = 1 := by unfold kd; rw [if_neg (by omega), if_pos h]
theorem kd_s {c : Int} (h : c = 59 ∨ c = 40 ∨ c = 41 ∨ c = 43 ∨ c = 45 ∨ c = 42 ∨ c = 47 ∨ c = 60 ∨ c = 61) : kd c = 3 := by unfold kd; rw [if_neg (by omega), if_neg (by omega), if_pos h]
theorem kd_b {c : Int} (h1 : ¬ (97 ≤ c ∧ c ≤ 122)) (h2 : ¬ (48 ≤ c ∧ c ≤ 57)) (h3 : ¬ (c = 59 ∨ c = 40 ∨ c = 41 ∨ c = 43 ∨ c = 45 ∨ c = 42 ∨ c = 47 ∨ c = 60 ∨ c = 61)) : kd c = 4 := by unfold kd; rw [if_neg h1, if_neg h2, if_neg h3]
theorem kd_rg (c : Int) : 1 ≤ kd c ∧ kd c ≤ 4 := by unfold kd; split <;> (try split) <;> (try split) <;> omega
theorem kd_2 {c : Int} (h : kd c = 2) : 97 ≤ c ∧ c ≤ 122 := by
  unfold kd at h
  by_cases c1 : 97 ≤ c ∧ c ≤ 122
  · exact c1
  · rw [if_neg c1] at h
    split at h
    · omega
    · split at h <;> omega
theorem kd_1 {c : Int} (h : kd c = 1) : 48 ≤ c ∧ c ≤ 57 := by
  unfold kd at h
  by_cases c1 : 97 ≤ c ∧ c ≤ 122
  · rw [if_pos c1] at h; omega
  · rw [if_neg c1] at h
    by_cases c2 : 48 ≤ c ∧ c ≤ 57
    · exact c2
    · rw [if_neg c2] at h; split at h <;> omega
def skF (b : Nat → Int32) (n : Nat) : Nat → Nat → Nat
  | 0, p => p
  | f + 1, p => if p < n ∧ ((b p).toInt = 32 ∨ (b p).toInt = 10) then skF b n f (p + 1) else p
/-- the first place from p on that is not blank -/
def sk (b : Nat → Int32) (n p : Nat) : Nat := skF b n (n - p) p
theorem sk_b {b : Nat → Int32} {n p : Nat} (h : p < n) (hb : (b p).toInt = 32 ∨ (b p).toInt = 10) : sk b n p = sk b n (p + 1) := by
  unfold sk
  rw [show n - p = (n - (p + 1)) + 1 by omega]
  exact if_pos ⟨h, hb⟩
theorem sk_n {b : Nat → Int32} {n p : Nat} (h : ¬ (p < n ∧ ((b p).toInt = 32 ∨ (b p).toInt = 10))) : sk b n p = p := by
  unfold sk
  cases n - p with
  | zero => rfl
  | succ f => exact if_neg h
theorem skF_le {b : Nat → Int32} {n : Nat} : ∀ {f p : Nat}, p ≤ n → p ≤ skF b n f p ∧ skF b n f p ≤ n := by
  intro f
  induction f with
  | zero => intro p h; exact ⟨Nat.le_refl _, h⟩
  | succ f ih =>
    intro p h
    unfold skF
    split
    · rename_i c
      have := ih (p := p + 1) (by omega)
      omega
    · exact ⟨Nat.le_refl _, h⟩
theorem sk_le {b : Nat → Int32} {n p : Nat} (h : p ≤ n) : p ≤ sk b n p ∧ sk b n p ≤ n := skF_le h
def rF (b : Nat → Int32) (n : Nat) (c : Int) : Nat → Nat → Nat
  | 0, p => p
  | f + 1, p => if p < n ∧ kd (b p).toInt = c then rF b n c f (p + 1) else p
/-- where a run of signs of one kind ends -/
def rE (b : Nat → Int32) (n : Nat) (c : Int) (p : Nat) : Nat := rF b n c (n - p) p
theorem rE_s {b : Nat → Int32} {n p : Nat} {c : Int} (h : p < n) (hb : kd (b p).toInt = c) : rE b n c p = rE b n c (p + 1) := by
  unfold rE
  rw [show n - p = (n - (p + 1)) + 1 by omega]
  exact if_pos ⟨h, hb⟩
theorem rE_n {b : Nat → Int32} {n p : Nat} {c : Int} (h : ¬ (p < n ∧ kd (b p).toInt = c)) : rE b n c p = p := by
  unfold rE
  cases n - p with
  | zero => rfl
  | succ f => exact if_neg h
theorem rF_le {b : Nat → Int32} {n : Nat} {c : Int} : ∀ {f p : Nat}, p ≤ n → p ≤ rF b n c f p ∧ rF b n c f p ≤ n := by
  intro f
  induction f with
  | zero => intro p h; exact ⟨Nat.le_refl _, h⟩
  | succ f ih =>
    intro p h
    unfold rF
    split
    · rename_i c
      have := ih (p := p + 1) (by omega)
      omega
    · exact ⟨Nat.le_refl _, h⟩
theorem rE_le {b : Nat → Int32} {n p : Nat} {c : Int} (h : p ≤ n) : p ≤ rE b n c p ∧ rE b n c p ≤ n := rF_le h
/-- all signs of the run are of the kind -/
theorem rF_all {b : Nat → Int32} {n : Nat} {c : Int} : ∀ {f p i : Nat}, p ≤ i → i < rF b n c f p → kd (b i).toInt = c := by
  intro f
  induction f with
  | zero => intro p i h1 h2; have h2 : i < p := h2; omega
  | succ f ih =>
    intro p i h1 h2
    unfold rF at h2
    split at h2
    · rename_i hc
      by_cases e : i = p
      · subst e; exact hc.2
      · exact ih (p := p + 1) (by omega) h2
    · omega
theorem rE_all {b : Nat → Int32} {n p i : Nat} {c : Int} (h1 : p ≤ i) (h2 : i < rE b n c p) : kd (b i).toInt = c := rF_all h1 h2
def vl (b : Nat → Int32) (P : Nat) : Nat → Int
  | 0 => 0
  | k + 1 => if k < 4 then 10 * vl b P k + (b (P + k)).toInt - 48 else vl b P k
theorem vl_s {b : Nat → Int32} {P k : Nat} (h : k < 4) : vl b P (k + 1) = 10 * vl b P k + (b (P + k)).toInt - 48 := if_pos h
theorem vl_e {b : Nat → Int32} {P k : Nat} (h : ¬ k < 4) : vl b P (k + 1) = vl b P k := if_neg h
def vb (k : Nat) : Int := if k = 0 then 0 else if k = 1 then 9 else if k = 2 then 99 else if k = 3 then 999 else 9999
theorem vl_b {b : Nat → Int32} {P : Nat} : ∀ {k : Nat}, (∀ i, i < k → 48 ≤ (b (P + i)).toInt ∧ (b (P + i)).toInt ≤ 57) → 0 ≤ vl b P k ∧ vl b P k ≤ vb k := by
  intro k
  induction k with
  | zero => intro _; exact ⟨Int.le_refl _, Int.le_refl _⟩
  | succ k ih =>
    intro h
    have h1 := ih (fun i hi => h i (by omega))
    have h2 := h k (by omega)
    by_cases hk : k < 4
    · rw [vl_s hk]
      generalize (b (P + k)).toInt = x at h2 ⊢
      unfold vb at h1 ⊢
      rcases (by omega : k = 0 ∨ k = 1 ∨ k = 2 ∨ k = 3) with rfl | rfl | rfl | rfl <;> simp at h1 ⊢ <;> omega
    · rw [vl_e hk]
      unfold vb at h1 ⊢
      rw [if_neg (by omega), if_neg (by omega), if_neg (by omega)]
      rw [if_neg (by omega), if_neg (by omega), if_neg (by omega)] at h1
      split at h1 <;> omega
theorem vb_le (k : Nat) : vb k ≤ 9999 := by unfold vb; split <;> (try split) <;> (try split) <;> (try split) <;> omega
def pI (b : Nat → Int32) (P : Nat) : Nat → Int
  | 0 => 0
  | k + 1 => if k < 6 then 32 * pI b P k + ((b (P + k)).toInt - 96) else pI b P k
theorem pI_s {b : Nat → Int32} {P k : Nat} (h : k < 6) : pI b P (k + 1) = 32 * pI b P k + ((b (P + k)).toInt - 96) := if_pos h
theorem pI_e {b : Nat → Int32} {P k : Nat} (h : ¬ k < 6) : pI b P (k + 1) = pI b P k := if_neg h
theorem pI_b {b : Nat → Int32} {P : Nat} : ∀ {k : Nat}, (∀ i, i < k → 97 ≤ (b (P + i)).toInt ∧ (b (P + i)).toInt ≤ 122) → 0 ≤ pI b P k ∧ pI b P k < 1073741824 ∧ (k < 6 → pI b P k < 33554432) ∧ (k < 5 → pI b P k < 1048576) ∧ (k < 4 → pI b P k < 32768) ∧ (k < 3 → pI b P k < 1024) ∧ (k < 2 → pI b P k < 32) ∧ (k < 1 → pI b P k < 1) := by
  intro k
  induction k with
  | zero =>
    intro _
    have e : pI b P 0 = 0 := rfl
    rw [e]; omega
  | succ k ih =>
    intro h
    have h1 := ih (fun i hi => h i (by omega))
    have h2 := h k (by omega)
    by_cases hk : k < 6
    · rw [pI_s hk]
      omega
    · rw [pI_e hk]
      omega
def tK (b : Nat → Int32) (n P : Nat) : Int := if P < n then kd (b P).toInt else 0
def tE (b : Nat → Int32) (n P : Nat) : Nat := if P < n then (if kd (b P).toInt = 1 ∨ kd (b P).toInt = 2 then rE b n (kd (b P).toInt) P else P + 1) else P
def tV (b : Nat → Int32) (n P : Nat) : Int := if tK b n P = 1 then vl b P (tE b n P - P) else 0
theorem tK_lt {b : Nat → Int32} {n P : Nat} (h : P < n) : tK b n P = kd (b P).toInt := if_pos h
theorem tK_ge {b : Nat → Int32} {n P : Nat} (h : ¬ P < n) : tK b n P = 0 := if_neg h
theorem tK_rg (b : Nat → Int32) (n P : Nat) : 0 ≤ tK b n P ∧ tK b n P ≤ 4 := by
  unfold tK
  have := kd_rg (b P).toInt
  split <;> omega
theorem tK_n0 {b : Nat → Int32} {n P : Nat} (h : tK b n P ≠ 0) : P < n := by
  by_cases c : P < n
  · exact c
  · exact absurd (tK_ge c) h
theorem tE_r {b : Nat → Int32} {n P : Nat} (h : P < n) (hk : kd (b P).toInt = 1 ∨ kd (b P).toInt = 2) : tE b n P = rE b n (kd (b P).toInt) P := by unfold tE; rw [if_pos h, if_pos hk]
theorem tE_1 {b : Nat → Int32} {n P : Nat} (h : P < n) (hk : ¬ (kd (b P).toInt = 1 ∨ kd (b P).toInt = 2)) : tE b n P = P + 1 := by unfold tE; rw [if_pos h, if_neg hk]
theorem tE_e {b : Nat → Int32} {n P : Nat} (h : ¬ P < n) : tE b n P = P := if_neg h
theorem tE_le {b : Nat → Int32} {n P : Nat} (h : P ≤ n) : P ≤ tE b n P ∧ tE b n P ≤ n ∧ (P < n → P < tE b n P) := by
  by_cases c : P < n
  · by_cases hk : kd (b P).toInt = 1 ∨ kd (b P).toInt = 2
    · rw [tE_r c hk, rE_s c rfl]
      have := rE_le (b := b) (n := n) (p := P + 1) (c := kd (b P).toInt) (by omega)
      omega
    · rw [tE_1 c hk]; omega
  · rw [tE_e c]; omega
theorem tE_all {b : Nat → Int32} {n P i : Nat} (hk : tK b n P = 1 ∨ tK b n P = 2) (h1 : P ≤ i) (h2 : i < tE b n P) : kd (b i).toInt = tK b n P := by
  have c : P < n := tK_n0 (b := b) (by omega)
  rw [tK_lt c] at hk ⊢
  rw [tE_r c hk] at h2
  exact rE_all h1 h2
/-- everything here depends on the bytes before n alone -/
theorem skF_c {b b' : Nat → Int32} {n : Nat} (hb : ∀ j, j < n → b' j = b j) : ∀ {f p : Nat}, skF b' n f p = skF b n f p := by
  intro f
  induction f with
  | zero => intro p; rfl
  | succ f ih =>
    intro p
    unfold skF
    by_cases c : p < n
    · rw [hb p c, ih]
    · rw [if_neg (by omega), if_neg (by omega)]
theorem sk_c {b b' : Nat → Int32} {n p : Nat} (hb : ∀ j, j < n → b' j = b j) : sk b' n p = sk b n p := skF_c hb
theorem rF_c {b b' : Nat → Int32} {n : Nat} {c : Int} (hb : ∀ j, j < n → b' j = b j) : ∀ {f p : Nat}, rF b' n c f p = rF b n c f p := by
  intro f
  induction f with
  | zero => intro p; rfl
  | succ f ih =>
    intro p
    unfold rF
    by_cases c : p < n
    · rw [hb p c, ih]
    · rw [if_neg (by omega), if_neg (by omega)]
theorem tK_c {b b' : Nat → Int32} {n P : Nat} (hb : ∀ j, j < n → b' j = b j) : tK b' n P = tK b n P := by
  unfold tK
  by_cases c : P < n
  · rw [hb P c]
  · rw [if_neg c, if_neg c]
theorem tE_c {b b' : Nat → Int32} {n P : Nat} (hb : ∀ j, j < n → b' j = b j) : tE b' n P = tE b n P := by
  unfold tE rE
  by_cases c : P < n
  · rw [hb P c, rF_c hb]
  · rw [if_neg c, if_neg c]
theorem vl_c {b b' : Nat → Int32} {P n : Nat} (hb : ∀ j, j < n → b' j = b j) : ∀ {k : Nat}, P + k ≤ n → vl b' P k = vl b P k := by
  intro k
  induction k with
  | zero => intro _; rfl
  | succ k ih => intro h; unfold vl; rw [ih (by omega), hb (P + k) (by omega)]
theorem tV_c {b b' : Nat → Int32} {n P : Nat} (hP : P ≤ n) (hb : ∀ j, j < n → b' j = b j) : tV b' n P = tV b n P := by
  have h := tE_le (b := b) hP
  unfold tV
  rw [tK_c hb, tE_c hb, vl_c hb (by omega)]
