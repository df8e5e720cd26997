/-! ===== typed worlds: every int field and every element is g k j, ranges by a table ===== -/
abbrev zSh : Type := (Nat × Nat × (Nat → Option (Option Nat))) ⊕ (Nat × Nat)
def zF (a : Nat → Nat) (g : Nat → Nat → Int32) (L : Nat → Nat → Int64) (k : Nat) (ft : Nat → Option (Option Nat)) : Nat → Value := fun j => match ft j with
  | none => .int (g k j)
  | some none => .long (L k j)
  | some (some t) => .ref (a t)
def zE (G : kG) (a : Nat → Nat) (g : Nat → Nat → Int32) (L : Nat → Nat → Int64) (k : Nat) (sh : zSh) : va_E := match sh with
  | .inl (ci, N, ft) => .inr (ci, ofL N (zF a g L k ft))
  | .inr (0, n) => .inl (G.2.1, n, .inl (g k))
  | .inr (1, n) => .inl (G.2.2.1, n, .inl (g k))
  | .inr (t + 2, n) => .inl (G.2.2.2.1, n, .inr (.inr (.inr (.inr (fun i => some (a (t + i % 12)))))))
def zw (G : kG) (Z : Nat → zSh) (n : Nat) (a : Nat → Nat) (g : Nat → Nat → Int32) (L : Nat → Nat → Int64) : va_W := (List.range n).map (fun k => (a k, zE G a g L k (Z k)))
theorem zat {G : kG} {Z : Nat → zSh} {n k : Nat} {a : Nat → Nat} {g : Nat → Nat → Int32} {L : Nat → Nat → Int64} {sh : zSh} (h : k < n) (hZ : Z k = sh) : (zw G Z n a g L)[k]? = some (a k, zE G a g L k sh) := by
  subst hZ
  simp [zw, h]
def updA (g : Nat → Nat → Int32) (k : Nat) (h : Nat → Int32) : Nat → Nat → Int32 := fun k' => if k' = k then h else g k'
def upd2 (g : Nat → Nat → Int32) (k j : Nat) (x : Int32) : Nat → Nat → Int32 := updA g k (upd (g k) j x)
def updL (L : Nat → Nat → Int64) (k j : Nat) (x : Int64) : Nat → Nat → Int64 := fun k' => if k' = k then (fun j' => if j' = j then x else L k j') else L k'
theorem updA_at {g : Nat → Nat → Int32} {k : Nat} {h : Nat → Int32} : updA g k h k = h := if_pos rfl
theorem updA_ne {g : Nat → Nat → Int32} {k k' : Nat} {h : Nat → Int32} (e : k' ≠ k) : updA g k h k' = g k' := if_neg e
theorem upd2_at {g : Nat → Nat → Int32} {k j : Nat} {x : Int32} : upd2 g k j x k j = x := by
  unfold upd2; rw [updA_at]; exact if_pos rfl
theorem upd2_nk {g : Nat → Nat → Int32} {k j k' j' : Nat} {x : Int32} (e : k' ≠ k) : upd2 g k j x k' j' = g k' j' := by
  unfold upd2; rw [updA_ne e]
theorem upd2_nj {g : Nat → Nat → Int32} {k j j' : Nat} {x : Int32} (e : j' ≠ j) : upd2 g k j x k j' = g k j' := by
  unfold upd2; rw [updA_at]; exact if_neg e
theorem zset {G : kG} {Z : Nat → zSh} {n k : Nat} {a : Nat → Nat} {g g' : Nat → Nat → Int32} {L L' : Nat → Nat → Int64} {e' : va_E} (hg : ∀ k', k' ≠ k → g' k' = g k') (hL : ∀ k', k' ≠ k → L' k' = L k') (he : k < n → zE G a g' L' k (Z k) = e') : (zw G Z n a g L).set k (a k, e') = zw G Z n a g' L' := by
  apply List.ext_getElem?
  intro i
  have hlen : (zw G Z n a g L).length = n := by simp [zw]
  have hlen' : (zw G Z n a g' L').length = n := by simp [zw]
  by_cases hi : i < n
  · rw [zat hi rfl, List.getElem?_set]
    by_cases hk : k = i
    · subst hk
      rw [if_pos rfl, if_pos (by rw [hlen]; exact hi), he hi]
    · rw [if_neg hk, zat hi rfl]
      have e1 : zE G a g L i (Z i) = zE G a g' L' i (Z i) := by
        have h1 := hg i (Ne.symm hk)
        have h2 := hL i (Ne.symm hk)
        unfold zE zF
        rw [h1, h2]
      rw [e1]
  · rw [List.getElem?_eq_none (by rw [List.length_set, hlen]; omega), List.getElem?_eq_none (by rw [hlen']; omega)]
theorem zset_i {G : kG} {Z : Nat → zSh} {n k j ci N : Nat} {a : Nat → Nat} {g : Nat → Nat → Int32} {L : Nat → Nat → Int64} {ft : Nat → Option (Option Nat)} {x : Int32} (hZ : Z k = .inl (ci, N, ft)) (hf : ft j = none) : (zw G Z n a g L).set k (a k, .inr (ci, ofL N (updV (zF a g L k ft) j (.int x)))) = zw G Z n a (upd2 g k j x) L := by
  refine zset (fun k' h => updA_ne h) (fun _ _ => rfl) (fun _ => ?_)
  rw [hZ]
  show (Sum.inr (ci, ofL N (zF a (upd2 g k j x) L k ft)) : va_E) = _
  congr 3
  funext j'
  unfold updV zF
  by_cases h : j' = j
  · subst h; rw [if_pos rfl, hf]; simp only [upd2_at]
  · rw [if_neg h]; simp only [upd2_nj h]
theorem zset_l {G : kG} {Z : Nat → zSh} {n k j ci N : Nat} {a : Nat → Nat} {g : Nat → Nat → Int32} {L : Nat → Nat → Int64} {ft : Nat → Option (Option Nat)} {x : Int64} (hZ : Z k = .inl (ci, N, ft)) (hf : ft j = some none) : (zw G Z n a g L).set k (a k, .inr (ci, ofL N (updV (zF a g L k ft) j (.long x)))) = zw G Z n a g (updL L k j x) := by
  refine zset (fun _ _ => rfl) (fun k' h => if_neg h) (fun _ => ?_)
  rw [hZ]
  show (Sum.inr (ci, ofL N (zF a g (updL L k j x) k ft)) : va_E) = _
  congr 3
  funext j'
  unfold updV zF updL
  by_cases h : j' = j
  · subst h; rw [if_pos rfl, hf]; simp
  · rw [if_neg h]; simp [h]
theorem zset_a {G : kG} {Z : Nat → zSh} {n k N : Nat} {a : Nat → Nat} {g : Nat → Nat → Int32} {L : Nat → Nat → Int64} {h : Nat → Int32} (hZ : Z k = .inr (0, N)) : (zw G Z n a g L).set k (a k, .inl (G.2.1, N, .inl h)) = zw G Z n a (updA g k h) L := by
  refine zset (fun k' h => updA_ne h) (fun _ _ => rfl) (fun _ => ?_)
  rw [hZ]
  show (Sum.inl (G.2.1, N, Sum.inl (updA g k h k)) : va_E) = _
  rw [updA_at]
theorem zset_z {G : kG} {Z : Nat → zSh} {n k N : Nat} {a : Nat → Nat} {g : Nat → Nat → Int32} {L : Nat → Nat → Int64} {h : Nat → Int32} (hZ : Z k = .inr (1, N)) : (zw G Z n a g L).set k (a k, .inl (G.2.2.1, N, .inl h)) = zw G Z n a (updA g k h) L := by
  refine zset (fun k' h => updA_ne h) (fun _ _ => rfl) (fun _ => ?_)
  rw [hZ]
  show (Sum.inl (G.2.2.1, N, Sum.inl (updA g k h k)) : va_E) = _
  rw [updA_at]
/-- ranges -/
def zI (T : Nat → Nat → Option (Int × Int)) (g : Nat → Nat → Int32) : Prop := ∀ (k j : Nat) (lo hi : Int), T k j = some (lo, hi) → lo ≤ (g k j).toInt ∧ (g k j).toInt ≤ hi
theorem zI.upd {T : Nat → Nat → Option (Int × Int)} {g : Nat → Nat → Int32} {k j : Nat} {x : Int32} (h : zI T g) {lo hi : Int} (e : T k j = some (lo, hi)) (h1 : lo ≤ x.toInt) (h2 : x.toInt ≤ hi) : zI T (upd2 g k j x) := by
  intro k' j' lo' hi' e'
  by_cases hk : k' = k
  · subst hk
    by_cases hj : j' = j
    · subst hj
      cases Option.some.inj (e.symm.trans e')
      rw [upd2_at]; exact ⟨h1, h2⟩
    · rw [upd2_nj hj]; exact h _ _ _ _ e'
  · rw [upd2_nk hk]; exact h _ _ _ _ e'
theorem zI.updN {T : Nat → Nat → Option (Int × Int)} {g : Nat → Nat → Int32} {k j : Nat} {x : Int32} (h : zI T g) (e : T k j = none) : zI T (upd2 g k j x) := by
  intro k' j' lo' hi' e'
  by_cases hk : k' = k
  · subst hk
    by_cases hj : j' = j
    · subst hj; rw [e] at e'; exact nomatch e'
    · rw [upd2_nj hj]; exact h _ _ _ _ e'
  · rw [upd2_nk hk]; exact h _ _ _ _ e'
theorem zI.cpy {T : Nat → Nat → Option (Int × Int)} {g : Nat → Nat → Int32} {k0 k1 sp dp n : Nat} (h : zI T g) (e : ∀ j j', T k1 j = T k0 j') : zI T (updA g k1 (va_cpy (g k0) (g k1) sp dp n)) := by
  intro k' j' lo' hi' e'
  by_cases hk : k' = k1
  · subst hk
    rw [updA_at]
    unfold va_cpy
    split
    · exact h _ _ _ _ ((e j' _).symm.trans e')
    · exact h _ _ _ _ e'
  · rw [updA_ne hk]; exact h _ _ _ _ e'
/-- Int32 as Int -/
theorem ic_lt {x y : Int32} : x < y ↔ x.toInt < y.toInt := Int32.lt_iff_toInt_lt
theorem ic_le {x y : Int32} : x ≤ y ↔ x.toInt ≤ y.toInt := Int32.le_iff_toInt_le
theorem ic_eq {x y : Int32} : x = y ↔ x.toInt = y.toInt := Int32.toInt_inj.symm
theorem ic_rg (x : Int32) : -2147483648 ≤ x.toInt ∧ x.toInt ≤ 2147483647 := ⟨Int32.le_toInt x, Int.le_of_lt_add_one (Int32.toInt_lt x)⟩
theorem ic_bm {n : Int} (h1 : -2147483648 ≤ n) (h2 : n ≤ 2147483647) : n.bmod (2 ^ 32) = n := by
  rw [Int.bmod_def]
  split <;> omega
theorem ic_add {x y : Int32} (h1 : -2147483648 ≤ x.toInt + y.toInt) (h2 : x.toInt + y.toInt ≤ 2147483647) : (x + y).toInt = x.toInt + y.toInt := by
  rw [Int32.toInt_add]; exact ic_bm h1 h2
theorem ic_sub {x y : Int32} (h1 : -2147483648 ≤ x.toInt - y.toInt) (h2 : x.toInt - y.toInt ≤ 2147483647) : (x - y).toInt = x.toInt - y.toInt := by
  rw [Int32.toInt_sub]; exact ic_bm h1 h2
theorem ic_mul {x y : Int32} (h1 : -2147483648 ≤ x.toInt * y.toInt) (h2 : x.toInt * y.toInt ≤ 2147483647) : (x * y).toInt = x.toInt * y.toInt := by
  rw [Int32.toInt_mul]; exact ic_bm h1 h2
theorem z_rg (ws : va_W) : (List.range ws.length).map (fun i => ws[i]?) = ws.map some := by
  apply List.ext_getElem?
  intro i
  by_cases h : i < ws.length
  · simp [h]
  · simp [List.getElem?_eq_none (Nat.le_of_not_lt h), h]
