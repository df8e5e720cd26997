/-! ===== what a line is: where it ends, or the place of its fault ===== -/
def dN (b : Nat → Int32) (n : Nat) (lo hi : Int) (P : Nat) : Decidable (nuC b n lo hi P) := by unfold nuC; exact inferInstance
def nB (b : Nat → Int32) (n : Nat) (lo hi : Int) (P : Nat) : Bool := @decide (nuC b n lo hi P) (dN b n lo hi P)
theorem nB_t {b : Nat → Int32} {n P : Nat} {lo hi : Int} (h : nuC b n lo hi P) : nB b n lo hi P = true := @decide_eq_true _ (dN b n lo hi P) h
theorem nB_f {b : Nat → Int32} {n P : Nat} {lo hi : Int} (h : ¬ nuC b n lo hi P) : nB b n lo hi P = false := @decide_eq_false _ (dN b n lo hi P) h
abbrev sR : Type := Except Nat Nat
def bn (r : sR) (k : Nat → sR) : sR := match r with
  | .error p => .error p
  | .ok P => k P
theorem bn_ok {P : Nat} {k : Nat → sR} : bn (.ok P) k = k P := rfl
theorem bn_er {p : Nat} {k : Nat → sR} : bn (.error p) k = .error p := rfl
def nuS (b : Nat → Int32) (n : Nat) (lo hi : Int) (P : Nat) : sR := if nB b n lo hi P then .ok (nx b n P) else .error P
def sgS (b : Nat → Int32) (n : Nat) (c : Int) (P : Nat) : sR := if sB b n P c then .ok (nx b n P) else .error P
def opS (b : Nat → Int32) (n k : Nat) (hi : Int) (P : Nat) : sR := if wB b n P k then nuS b n 0 hi (nx b n P) else .ok P
/-- those waited for: acc are named already -/
def waS (b : Nat → Int32) (n : Nat) (l some : Int) : Nat → List Int → Nat → sR
  | 0, _, P => .error P
  | f + 1, acc, P => if tK b n P = 1 then (if tE b n P ≤ P + 4 ∧ acc.length < 6 then (if tV b n P < l then (if tV b n P ∈ acc then .error P else waS b n l some f (acc ++ [tV b n P]) (nx b n P)) else .error P) else .error P)
    else (if acc.length = 0 then .error P else if (acc.length : Int) < some then .error P else .ok P)
def ops (b : Nat → Int32) (n P : Nat) : sR := bn (opS b n 8 99 P) (fun P1 => bn (opS b n 9 10 P1) (fun P2 => opS b n 10 30 P2))
def tlS (b : Nat → Int32) (n : Nat) (l : Int) (P : Nat) : sR :=
  if wB b n P 6 then bn (waS b n l 0 8 [] (nx b n P)) (ops b n)
  else if wB b n P 7 then bn (nuS b n 1 6 (nx b n P)) (fun P1 => bn (waS b n l (tV b n (nx b n P)) 8 [] P1) (ops b n))
  else ops b n P
def leS (b : Nat → Int32) (n : Nat) (l : Int) (P : Nat) : sR :=
  bn (nuS b n 0 999 (nx b n P)) (fun P1 => bn (nuS b n (tV b n (nx b n P) + 1) 999 P1) (fun P2 => bn (nuS b n 1 200 P2) (fun P3 => bn (nuS b n 0 60 P3) (fun P4 => bn (nuS b n 0 9 P4) (fun P5 => bn (nuS b n 1 99 P5) (tlS b n l))))))
/-- a line; what has been told: lessons, rules, walk, stair -/
abbrev tS : Type := Nat × Nat × Bool × Bool
def xF : Nat := 16 * 702 + 8
def xsP (b : Nat → Int32) (n P : Nat) : sR := match xs b n xF 6 0 [] P with
  | .error p => .error p
  | .ok q => .ok q.2
def fnS (b : Nat → Int32) (n : Nat) (r : sR) (t : tS) : Except Nat (tS × Nat) := match bn r (sgS b n 59) with
  | .error p => .error p
  | .ok Q => .ok (t, Q)
def liS (b : Nat → Int32) (n : Nat) (t : tS) (P : Nat) : Except Nat (tS × Nat) :=
  if wB b n P 5 then fnS b n (if t.1 < 12 then leS b n t.1 P else .error P) (t.1 + 1, t.2)
  else if wB b n P 11 then fnS b n (if t.2.2.1 then .error P else nuS b n 0 9 (nx b n P)) (t.1, t.2.1, true, t.2.2.2)
  else if wB b n P 12 then fnS b n (if t.2.2.2 then .error P else nuS b n 1 99 (nx b n P)) (t.1, t.2.1, t.2.2.1, true)
  else if wB b n P 13 then fnS b n (if t.2.1 < 4 then xsP b n (nx b n P) else .error P) (t.1, t.2.1 + 1, t.2.2)
  else .error P
/-- the whole text -/
def hoS (b : Nat → Int32) (n : Nat) : Nat → tS → Nat → Except Nat tS
  | 0, _, P => .error P
  | f + 1, t, P => if tK b n P = 0 then .ok t else match liS b n t P with
    | .error p => .error p
    | .ok q => hoS b n f q.1 q.2
/-- what a line tells: the k-th token behind; the fields of a lesson; those waited for -/
def nxI (b : Nat → Int32) (n : Nat) : Nat → Nat → Nat
  | 0, P => P
  | k + 1, P => nx b n (nxI b n k P)
def waL (b : Nat → Int32) (n : Nat) : Nat → List Int → Nat → List Int × Nat
  | 0, acc, P => (acc, P)
  | f + 1, acc, P => if tK b n P = 1 then waL b n f (acc ++ [tV b n P]) (nx b n P) else (acc, P)
def opV (b : Nat → Int32) (n k : Nat) (d : Int) (P : Nat) : Int := if wB b n P k then tV b n (nx b n P) else d
def opN (b : Nat → Int32) (n k P : Nat) : Nat := if wB b n P k then nx b n (nx b n P) else P
def leL (b : Nat → Int32) (n Q : Nat) : List Int × Nat := if wB b n Q 6 then waL b n 8 [] (nx b n Q) else if wB b n Q 7 then waL b n 8 [] (nx b n (nx b n Q)) else ([], Q)
def leV (b : Nat → Int32) (n P : Nat) : Nat → Int
  | 3 => tV b n (nxI b n 1 P)
  | 4 => tV b n (nxI b n 2 P)
  | 5 => tV b n (nxI b n 3 P)
  | 6 => tV b n (nxI b n 4 P)
  | 7 => tV b n (nxI b n 5 P)
  | 8 => tV b n (nxI b n 6 P)
  | 9 => if wB b n (nxI b n 7 P) 6 then 0 else if wB b n (nxI b n 7 P) 7 then 1 else 2
  | 10 => if wB b n (nxI b n 7 P) 6 then 0 else if wB b n (nxI b n 7 P) 7 then tV b n (nx b n (nxI b n 7 P)) else 0
  | 11 => opV b n 8 99 (leL b n (nxI b n 7 P)).2
  | 12 => opV b n 9 10 (opN b n 8 (leL b n (nxI b n 7 P)).2)
  | 13 => opV b n 10 0 (opN b n 9 (opN b n 8 (leL b n (nxI b n 7 P)).2))
  | _ => 0
def leA (b : Nat → Int32) (n P : Nat) : List Int := (leL b n (nxI b n 7 P)).1
def mW (acc : List Int) : Int32 := acc.foldl (fun x k => x ||| ((1 : Int32) <<< (Int32.ofInt k &&& 31))) 0
theorem mW_ap {acc : List Int} {k : Int32} : mW (acc ++ [k.toInt]) = mW acc ||| ((1 : Int32) <<< (k &&& 31)) := by
  unfold mW
  rw [List.foldl_append]
  show _ ||| ((1 : Int32) <<< (Int32.ofInt k.toInt &&& 31)) = _
  rw [Int32.ofInt_toInt]
theorem waL_len {b : Nat → Int32} {n : Nat} : ∀ {f : Nat} {acc : List Int} {P : Nat}, (waL b n f acc P).1.length ≤ acc.length + f := by
  intro f
  induction f with
  | zero => intro acc P; exact Nat.le_refl _
  | succ f ih =>
    intro acc P
    unfold waL
    split
    · have := ih (acc := acc ++ [tV b n P]) (P := nx b n P)
      rw [List.length_append] at this
      have this : _ ≤ acc.length + 1 + f := this
      omega
    · show acc.length ≤ _; omega
/-- where lessons and rules stand in the text, walk, stair -/
abbrev dT : Type := (Nat → Nat) × (Nat → Nat) × Int × Int
def upN (f : Nat → Nat) (k v : Nat) : Nat → Nat := fun i => if i = k then v else f i
theorem upN_at {f : Nat → Nat} {k v : Nat} : upN f k v k = v := if_pos rfl
theorem upN_ne {f : Nat → Nat} {k v i : Nat} (h : i ≠ k) : upN f k v i = f i := if_neg h
def liD (b : Nat → Int32) (n : Nat) (t : tS) (D : dT) (P : Nat) : dT :=
  if wB b n P 5 then (upN D.1 t.1 P, D.2)
  else if wB b n P 11 then (D.1, D.2.1, tV b n (nx b n P), D.2.2.2)
  else if wB b n P 12 then (D.1, D.2.1, D.2.2.1, tV b n (nx b n P))
  else if wB b n P 13 then (D.1, upN D.2.1 t.2.1 (nx b n P), D.2.2)
  else D
def hoD (b : Nat → Int32) (n : Nat) : Nat → tS → dT → Nat → dT
  | 0, _, D, _ => D
  | f + 1, t, D, P => if tK b n P = 0 then D else match liS b n t P with
    | .error _ => D
    | .ok q => hoD b n f q.1 (liD b n t D P) q.2
def D0 : dT := (fun _ => 0, fun _ => 0, 1, 99)
theorem nuS_ok {b : Nat → Int32} {n P Q : Nat} {lo hi : Int} (h : nuS b n lo hi P = .ok Q) : nuC b n lo hi P ∧ Q = nx b n P := by
  unfold nuS at h
  split at h
  · rename_i hc
    cases h
    exact ⟨@of_decide_eq_true _ (dN b n lo hi P) hc, rfl⟩
  · exact nomatch h
theorem bn_inv {r : sR} {k : Nat → sR} {Q : Nat} (h : bn r k = .ok Q) : ∃ P, r = .ok P ∧ k P = .ok Q := by
  cases r with
  | error p => exact nomatch h
  | ok P => exact ⟨P, rfl, h⟩
/-- a number was read -/
theorem nu_ok {b : Nat → Int32} {n Q : Nat} {lo hi : Int} {r : sR} {x : Int32} (h : bn r (nuS b n lo hi) = .ok Q) (v : ∀ P, r = .ok P → nuC b n lo hi P → x.toInt = tV b n P) : ∃ P, r = .ok P ∧ Q = nx b n P ∧ x.toInt = tV b n P := by
  obtain ⟨P, e1, e2⟩ := bn_inv h
  have e := nuS_ok e2
  exact ⟨P, e1, e.2, v P e1 e.1⟩
theorem nuS_le {b : Nat → Int32} {n P Q : Nat} {lo hi : Int} (hP : P ≤ n) (h : nuS b n lo hi P = .ok Q) : P < Q ∧ Q ≤ n := by
  unfold nuS at h
  split at h
  · rename_i hc
    cases h
    have hc : nuC b n lo hi P := @of_decide_eq_true _ (dN b n lo hi P) hc
    have := nx_le (b := b) hP
    have := this.2.2 (tK_n0 (b := b) (by have := hc.1; omega))
    omega
  · exact nomatch h
/-- the class's state, good or not -/
def ST (b : Nat → Int32) (n : Nat) (r : sR) (g : gT) : Prop := match r with
  | .error p => bX p g
  | .ok P => cX b n P g
def SM (b : Nat → Int32) (n : Nat) (r : sR) (g : gT) (L : lT) : Prop := match r with
  | .error p => bM p g
  | .ok P => cM b n P g L
theorem ST.I {b : Nat → Int32} {n : Nat} {r : sR} {g : gT} (h : ST b n r g) : zI XT g := by
  cases r with
  | error p => exact h.1
  | ok P => exact h.1
/-- nothing but the parser and one lesson has changed -/
def KP (q : Nat) (g g1 : gT) : Prop := (∀ k, k < 69 → k ≠ 5 → g1 k = g k) ∧ g1 5 9 = g 5 9 ∧ g1 5 10 = g 5 10 ∧ (∀ k, 69 ≤ k → k ≠ q → k ≠ q + 24 → g1 k = g k)
theorem KP.refl {q : Nat} {g : gT} : KP q g g := ⟨fun _ _ _ => rfl, rfl, rfl, fun _ _ _ _ => rfl⟩
theorem KP.tr {q : Nat} {g g1 g2 : gT} (h1 : KP q g g1) (h2 : KP q g1 g2) : KP q g g2 := ⟨fun k a c => (h2.1 k a c).trans (h1.1 k a c), h2.2.1.trans h1.2.1, h2.2.2.1.trans h1.2.2.1, fun k a c d => (h2.2.2.2 k a c d).trans (h1.2.2.2 k a c d)⟩
theorem KP.x {q : Nat} {g g1 : gT} {A : List Nat} (h : FX A [] g g1) (h9 : 9 ∉ A) (h10 : 10 ∉ A) : KP q g g1 := ⟨fun k _ c => h.2 k c (List.not_mem_nil), h.1 9 h9, h.1 10 h10, fun k a _ _ => h.2 k (by omega) (List.not_mem_nil)⟩
theorem KP.u {q : Nat} {g g1 : gT} {k j : Nat} {x : Int32} (h : KP q g g1) (hq : 69 ≤ q) (hk : k = q ∨ k = q + 24) : KP q g (upd2 g1 k j x) := by
  refine ⟨fun k' a c => (funext fun i => upd2_nk (show k' ≠ k by omega)).trans (h.1 k' a c), ?_, ?_, fun k' a c d => (funext fun i => upd2_nk (show k' ≠ k by omega)).trans (h.2.2.2 k' a c d)⟩
  · rw [upd2_nk (by omega)]; exact h.2.1
  · rw [upd2_nk (by omega)]; exact h.2.2.1
theorem ST.u {b : Nat → Int32} {n : Nat} {r : sR} {g : gT} {k j : Nat} {x : Int32} (h : ST b n r g) (hI : zI XT (upd2 g k j x)) (h5 : k ≠ 5) (h14 : k ≠ 14) : ST b n r (upd2 g k j x) := by
  have hF : FX [] [k] g (upd2 g k j x) := FX.refl.uk h5 (List.mem_singleton.mpr rfl)
  have m : 14 ∉ [k] := fun h => h14 (List.mem_singleton.mp h).symm
  cases r with
  | error p => exact h.fr hI hF (by decide) (by decide) (by decide)
  | ok P => exact h.fr hI hF (by decide) (by decide) (by decide) (by decide) (by decide) (by decide) (by decide) m
theorem ST.f {b : Nat → Int32} {n : Nat} {r : sR} {g : gT} {j : Nat} {x : Int32} (h : ST b n r g) (hI : zI XT (upd2 g 5 j x)) (hj : 9 ≤ j) : ST b n r (upd2 g 5 j x) := by
  have hF : FX [j] [] g (upd2 g 5 j x) := FX.refl.u5 (List.mem_singleton.mpr rfl)
  have m : ∀ i, i < 9 → i ∉ [j] := fun i hi h => by have := List.mem_singleton.mp h; omega
  cases r with
  | error p => exact h.fr hI hF (m 4 (by decide)) (m 7 (by decide)) (m 8 (by decide))
  | ok P => exact h.fr hI hF (m 2 (by decide)) (m 3 (by decide)) (m 4 (by decide)) (m 5 (by decide)) (m 6 (by decide)) (m 7 (by decide)) (m 8 (by decide)) (List.not_mem_nil)
section XST
variable {ρ : Type} {Q : ρ → gT → lT → Prop} {b : Nat → Int32} {n : Nat} {g : gT} {L : lT} {fu : Nat} {r : sR}
theorem s_adv {K : Unit → gT → lT → Option (ρ × zS)} (hfu : 1180591620717411303424 ≤ fu) (hs : ST b n r g) (h : ∀ g1 L1, ST b n (bn r (fun P => .ok (nx b n P))) g1 → FX [3, 4, 5, 6] [] g g1 → Ex (K () g1 L1) Q) : Ex (cb (fX6_advance_5 fu g L) K) Q := by
  cases r with
  | error p => exact x_advB hs.2.1 (h g L hs FX.refl)
  | ok P => exact x_adv hfu hs (fun g1 L1 k1 k2 => h g1 L1 k1 k2)
theorem s_num {p1 p2 : Int32} {K : Int32 → gT → lT → Option (ρ × zS)} (hfu : 1180591620717411303424 ≤ fu) (hs : ST b n r g) (h : ∀ (x : Int32) g1 L1, ST b n (bn r (nuS b n p1.toInt p2.toInt)) g1 → FX [3, 4, 5, 6, 7, 8] [] g g1 → (∀ P, r = .ok P → nuC b n p1.toInt p2.toInt P → x.toInt = tV b n P) → Ex (K x g1 L1) Q) : Ex (cb (fX6_readNumber_5 fu p1 p2 g L) K) Q := by
  cases r with
  | error p => exact x_numB hs.2.1 (h 0 g L hs FX.refl (fun P e => nomatch e))
  | ok P =>
    refine x_num hfu hs (fun hn x g1 L1 k1 k2 k3 => h x g1 L1 ?_ (k3.mo (by decide) (by decide)) (fun P' e _ => by cases e; exact k1)) (fun hn g1 k1 k2 => h 0 g1 L ?_ (k2.mo (by decide) (by decide)) (fun P' e hn' => by cases e; exact absurd hn' hn))
    · rw [bn_ok]; unfold nuS; rw [nB_t hn]; exact k2
    · rw [bn_ok]; unfold nuS; rw [nB_f hn]; exact k1
theorem s_sgn {c : Int32} {K : Unit → gT → lT → Option (ρ × zS)} (hfu : 1180591620717411303424 ≤ fu) (hs : ST b n r g) (h : ∀ g1 L1, ST b n (bn r (sgS b n c.toInt)) g1 → FX [3, 4, 5, 6, 7, 8] [] g g1 → Ex (K () g1 L1) Q) : Ex (cb (fX6_readSign_5 fu c g L) K) Q := by
  cases r with
  | error p => exact x_rsgB hs.2.1 (h g L hs FX.refl)
  | ok P =>
    refine x_rsg hfu hs (fun hn g1 L1 k1 k2 => h g1 L1 ?_ (k2.mo (by decide) (by decide))) (fun hn g1 k1 k2 => h g1 L ?_ (k2.mo (by decide) (by decide)))
    · rw [bn_ok]; unfold sgS; rw [sB_t hn]; exact k1
    · rw [bn_ok]; unfold sgS; rw [sB_f hn]; exact k1
theorem s_refuse {w : Int32} {K : Unit → gT → lT → Option (ρ × zS)} (hw : w.toInt ≠ 0) (hs : ST b n r g) (h : ∀ g1, ST b n (bn r (fun P => .error P)) g1 → FX [4, 7, 8] [] g g1 → Ex (K () g1 L) Q) : Ex (cb (fX6_refuse_5 fu w g L) K) Q := by
  cases r with
  | error p => exact x_refB hs.2.1 (h g hs FX.refl)
  | ok P => exact x_ref hw hs (fun g1 k1 k2 => h g1 k1 k2)
end XST
