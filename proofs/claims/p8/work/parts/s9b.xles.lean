/-! ===== the class's lessons ===== -/
theorem b_and1 (y : BitVec 32) : (y &&& 1#32 = 0#32) ↔ y.getLsbD 0 = false := by
  have e : (y &&& 1#32).toNat = y.toNat % 2 := by rw [BitVec.toNat_and]; exact Nat.and_one_is_mod _
  have t : y.getLsbD 0 = decide (y.toNat % 2 = 1) := by
    show y.toNat.testBit 0 = _
    exact Nat.testBit_zero _
  rw [t]
  constructor
  · intro h
    rw [h] at e
    have e : 0 = y.toNat % 2 := e
    exact decide_eq_false (by omega)
  · intro h
    have h := of_decide_eq_false h
    apply BitVec.eq_of_toNat_eq
    rw [e]
    show y.toNat % 2 = 0
    omega
theorem b_tst {x k : Int32} (h0 : 0 ≤ k.toInt) (h1 : k.toInt ≤ 11) : ((x >>> (k &&& 31)) &&& 1 = 0) ↔ x.toBitVec.getLsbD k.toInt.toNat = false := by
  have key : ∀ (m : Nat) (y : Int32), m < 12 → y.toBitVec.smod 32 = BitVec.ofNat 32 m → (((x >>> y) &&& 1 = 0) ↔ x.toBitVec.getLsbD m = false) := by
    intro m y hm hy
    have e : ((x >>> y) &&& 1).toBitVec = (x.toBitVec.sshiftRight m) &&& 1#32 := by
      rw [Int32.toBitVec_and, Int32.toBitVec_shiftRight, hy]
      have : (BitVec.ofNat 32 m).toNat = m := by rw [BitVec.toNat_ofNat]; exact Nat.mod_eq_of_lt (by omega)
      show x.toBitVec.sshiftRight (BitVec.ofNat 32 m).toNat &&& _ = _
      rw [this]; rfl
    have i : ((x >>> y) &&& 1 = 0) ↔ ((x >>> y) &&& 1).toBitVec = 0#32 := ⟨fun h => by rw [h]; rfl, fun h => Int32.toBitVec_inj.mp h⟩
    rw [i, e, b_and1, BitVec.getLsbD_sshiftRight]
    simp only [Nat.add_zero]
    have h2 : m < 32 := by omega
    simp [h2]
  rcases (by omega : k.toInt = 0 ∨ k.toInt = 1 ∨ k.toInt = 2 ∨ k.toInt = 3 ∨ k.toInt = 4 ∨ k.toInt = 5 ∨ k.toInt = 6 ∨ k.toInt = 7 ∨ k.toInt = 8 ∨ k.toInt = 9 ∨ k.toInt = 10 ∨ k.toInt = 11) with h | h | h | h | h | h | h | h | h | h | h | h
  · obtain rfl : k = 0 := ic_eq.mpr h; exact key 0 _ (by decide) (by decide)
  · obtain rfl : k = 1 := ic_eq.mpr h; exact key 1 _ (by decide) (by decide)
  · obtain rfl : k = 2 := ic_eq.mpr h; exact key 2 _ (by decide) (by decide)
  · obtain rfl : k = 3 := ic_eq.mpr h; exact key 3 _ (by decide) (by decide)
  · obtain rfl : k = 4 := ic_eq.mpr h; exact key 4 _ (by decide) (by decide)
  · obtain rfl : k = 5 := ic_eq.mpr h; exact key 5 _ (by decide) (by decide)
  · obtain rfl : k = 6 := ic_eq.mpr h; exact key 6 _ (by decide) (by decide)
  · obtain rfl : k = 7 := ic_eq.mpr h; exact key 7 _ (by decide) (by decide)
  · obtain rfl : k = 8 := ic_eq.mpr h; exact key 8 _ (by decide) (by decide)
  · obtain rfl : k = 9 := ic_eq.mpr h; exact key 9 _ (by decide) (by decide)
  · obtain rfl : k = 10 := ic_eq.mpr h; exact key 10 _ (by decide) (by decide)
  · obtain rfl : k = 11 := ic_eq.mpr h; exact key 11 _ (by decide) (by decide)
theorem b_one {k : Int32} (h0 : 0 ≤ k.toInt) (h1 : k.toInt ≤ 11) (i : Nat) (hi : i ≤ 11) : ((1 : Int32) <<< (k &&& 31)).toBitVec.getLsbD i = decide (i = k.toInt.toNat) := by
  have key : ∀ (m : Int32), m.toInt = 0 ∨ m.toInt = 1 ∨ m.toInt = 2 ∨ m.toInt = 3 ∨ m.toInt = 4 ∨ m.toInt = 5 ∨ m.toInt = 6 ∨ m.toInt = 7 ∨ m.toInt = 8 ∨ m.toInt = 9 ∨ m.toInt = 10 ∨ m.toInt = 11 → ((1 : Int32) <<< (m &&& 31)).toBitVec.getLsbD i = decide (i = m.toInt.toNat) := by
    intro m hm
    rcases hm with h | h | h | h | h | h | h | h | h | h | h | h
    · obtain rfl : m = 0 := ic_eq.mpr h
      rcases (by omega : i = 0 ∨ i = 1 ∨ i = 2 ∨ i = 3 ∨ i = 4 ∨ i = 5 ∨ i = 6 ∨ i = 7 ∨ i = 8 ∨ i = 9 ∨ i = 10 ∨ i = 11) with rfl | rfl | rfl | rfl | rfl | rfl | rfl | rfl | rfl | rfl | rfl | rfl <;> decide
    · obtain rfl : m = 1 := ic_eq.mpr h
      rcases (by omega : i = 0 ∨ i = 1 ∨ i = 2 ∨ i = 3 ∨ i = 4 ∨ i = 5 ∨ i = 6 ∨ i = 7 ∨ i = 8 ∨ i = 9 ∨ i = 10 ∨ i = 11) with rfl | rfl | rfl | rfl | rfl | rfl | rfl | rfl | rfl | rfl | rfl | rfl <;> decide
    · obtain rfl : m = 2 := ic_eq.mpr h
      rcases (by omega : i = 0 ∨ i = 1 ∨ i = 2 ∨ i = 3 ∨ i = 4 ∨ i = 5 ∨ i = 6 ∨ i = 7 ∨ i = 8 ∨ i = 9 ∨ i = 10 ∨ i = 11) with rfl | rfl | rfl | rfl | rfl | rfl | rfl | rfl | rfl | rfl | rfl | rfl <;> decide
    · obtain rfl : m = 3 := ic_eq.mpr h
      rcases (by omega : i = 0 ∨ i = 1 ∨ i = 2 ∨ i = 3 ∨ i = 4 ∨ i = 5 ∨ i = 6 ∨ i = 7 ∨ i = 8 ∨ i = 9 ∨ i = 10 ∨ i = 11) with rfl | rfl | rfl | rfl | rfl | rfl | rfl | rfl | rfl | rfl | rfl | rfl <;> decide
    · obtain rfl : m = 4 := ic_eq.mpr h
      rcases (by omega : i = 0 ∨ i = 1 ∨ i = 2 ∨ i = 3 ∨ i = 4 ∨ i = 5 ∨ i = 6 ∨ i = 7 ∨ i = 8 ∨ i = 9 ∨ i = 10 ∨ i = 11) with rfl | rfl | rfl | rfl | rfl | rfl | rfl | rfl | rfl | rfl | rfl | rfl <;> decide
    · obtain rfl : m = 5 := ic_eq.mpr h
      rcases (by omega : i = 0 ∨ i = 1 ∨ i = 2 ∨ i = 3 ∨ i = 4 ∨ i = 5 ∨ i = 6 ∨ i = 7 ∨ i = 8 ∨ i = 9 ∨ i = 10 ∨ i = 11) with rfl | rfl | rfl | rfl | rfl | rfl | rfl | rfl | rfl | rfl | rfl | rfl <;> decide
    · obtain rfl : m = 6 := ic_eq.mpr h
      rcases (by omega : i = 0 ∨ i = 1 ∨ i = 2 ∨ i = 3 ∨ i = 4 ∨ i = 5 ∨ i = 6 ∨ i = 7 ∨ i = 8 ∨ i = 9 ∨ i = 10 ∨ i = 11) with rfl | rfl | rfl | rfl | rfl | rfl | rfl | rfl | rfl | rfl | rfl | rfl <;> decide
    · obtain rfl : m = 7 := ic_eq.mpr h
      rcases (by omega : i = 0 ∨ i = 1 ∨ i = 2 ∨ i = 3 ∨ i = 4 ∨ i = 5 ∨ i = 6 ∨ i = 7 ∨ i = 8 ∨ i = 9 ∨ i = 10 ∨ i = 11) with rfl | rfl | rfl | rfl | rfl | rfl | rfl | rfl | rfl | rfl | rfl | rfl <;> decide
    · obtain rfl : m = 8 := ic_eq.mpr h
      rcases (by omega : i = 0 ∨ i = 1 ∨ i = 2 ∨ i = 3 ∨ i = 4 ∨ i = 5 ∨ i = 6 ∨ i = 7 ∨ i = 8 ∨ i = 9 ∨ i = 10 ∨ i = 11) with rfl | rfl | rfl | rfl | rfl | rfl | rfl | rfl | rfl | rfl | rfl | rfl <;> decide
    · obtain rfl : m = 9 := ic_eq.mpr h
      rcases (by omega : i = 0 ∨ i = 1 ∨ i = 2 ∨ i = 3 ∨ i = 4 ∨ i = 5 ∨ i = 6 ∨ i = 7 ∨ i = 8 ∨ i = 9 ∨ i = 10 ∨ i = 11) with rfl | rfl | rfl | rfl | rfl | rfl | rfl | rfl | rfl | rfl | rfl | rfl <;> decide
    · obtain rfl : m = 10 := ic_eq.mpr h
      rcases (by omega : i = 0 ∨ i = 1 ∨ i = 2 ∨ i = 3 ∨ i = 4 ∨ i = 5 ∨ i = 6 ∨ i = 7 ∨ i = 8 ∨ i = 9 ∨ i = 10 ∨ i = 11) with rfl | rfl | rfl | rfl | rfl | rfl | rfl | rfl | rfl | rfl | rfl | rfl <;> decide
    · obtain rfl : m = 11 := ic_eq.mpr h
      rcases (by omega : i = 0 ∨ i = 1 ∨ i = 2 ∨ i = 3 ∨ i = 4 ∨ i = 5 ∨ i = 6 ∨ i = 7 ∨ i = 8 ∨ i = 9 ∨ i = 10 ∨ i = 11) with rfl | rfl | rfl | rfl | rfl | rfl | rfl | rfl | rfl | rfl | rfl | rfl <;> decide
  exact key k (by omega)
/-- the bits of those named -/
def bR (x : Int32) (acc : List Int) : Prop := ∀ i : Nat, i ≤ 11 → (x.toBitVec.getLsbD i = true ↔ (i : Int) ∈ acc)
theorem bR_0 : bR 0 [] := fun i hi => by
  have h : ∀ i, i ≤ 11 → (0 : Int32).toBitVec.getLsbD i = false := by decide
  rw [h i hi]
  exact ⟨fun h => absurd h (by decide), fun h => absurd h (List.not_mem_nil)⟩
theorem bR_or {x k : Int32} {acc : List Int} (h : bR x acc) (h0 : 0 ≤ k.toInt) (h1 : k.toInt ≤ 11) : bR (x ||| ((1 : Int32) <<< (k &&& 31))) (acc ++ [k.toInt]) := by
  intro i hi
  rw [Int32.toBitVec_or, BitVec.getLsbD_or, b_one h0 h1 i hi, Bool.or_eq_true, h i hi, decide_eq_true_eq, List.mem_append, List.mem_singleton]
  constructor
  · rintro (h | h)
    · exact Or.inl h
    · exact Or.inr (by omega)
  · rintro (h | h)
    · exact Or.inl h
    · exact Or.inr (by omega)
theorem bR_t {x k : Int32} {acc : List Int} (h : bR x acc) (h0 : 0 ≤ k.toInt) (h1 : k.toInt ≤ 11) : ((x >>> (k &&& 31)) &&& 1 = 0) ↔ k.toInt ∉ acc := by
  rw [b_tst h0 h1]
  have e := h k.toInt.toNat (by omega)
  rw [show ((k.toInt.toNat : Nat) : Int) = k.toInt by omega] at e
  constructor
  · intro hf hm
    rw [e.mpr hm] at hf
    exact nomatch hf
  · intro hm
    cases hb : x.toBitVec.getLsbD k.toInt.toNat with
    | false => rfl
    | true => exact absurd (e.mp hb) hm
section XLE
variable {ρ : Type} {Q : ρ → gT → lT → Prop} {b : Nat → Int32} {n : Nat} {g : gT} {L : lT} {fu : Nat} {r : sR}
theorem s_opt_limit {p1 p2 : Int32} {K : Int32 → gT → lT → Option (ρ × zS)} (hfu : 1180591620717411303424 ≤ fu) (hs : ST b n r g) (h : ∀ (x : Int32) g1 L1, ST b n (bn r (opS b n 8 p1.toInt)) g1 → FX [3, 4, 5, 6, 7, 8] [] g g1 → (∀ R, bn r (opS b n 8 p1.toInt) = .ok R → ∃ P, r = .ok P ∧ x.toInt = opV b n 8 p2.toInt P ∧ R = opN b n 8 P) → Ex (K x g1 L1) Q) : Ex (cb (fX6_readOption_5_limit fu p1 p2 g L) K) Q := by
  have key : Ex (fX6_readOption_5_limit fu p1 p2 g L) (fun (x : Int32) g1 L1 => ST b n (bn r (opS b n 8 p1.toInt)) g1 ∧ FX [3, 4, 5, 6, 7, 8] [] g g1 ∧ (∀ R, bn r (opS b n 8 p1.toInt) = .ok R → ∃ P, r = .ok P ∧ x.toInt = opV b n 8 p2.toInt P ∧ R = opN b n 8 P)) := by
    unfold fX6_readOption_5_limit
    cases r with
    | error p => exact e_limitW hfu hs.1 (fun h => absurd h (xW_B hs.2.1 _)) (fun _ => Ex.ret ⟨hs, FX.refl, fun R hR => nomatch hR⟩)
    | ok P =>
      have hs : cX b n P g := hs
      refine e_limitW hfu hs.1 (fun hw => ?_) (fun hw => ?_)
      · have hw := (xW_isW hs _).mp hw
        refine x_adv hfu hs (fun g1 L1 k1 k2 => ?_)
        refine s_num (r := .ok (nx b n P)) hfu k1 (fun x g2 L2 m1 m2 vx => Ex.ret ⟨?_, (k2.mo (by decide) (by decide)).tr m2, fun R hR => ⟨P, rfl, ?_⟩⟩)
        · rw [bn_ok]; unfold opS; rw [wB_t hw]; exact m1
        · rw [bn_ok] at hR; unfold opS at hR; rw [wB_t hw, if_pos rfl] at hR
          have e := nuS_ok hR
          unfold opV opN
          rw [wB_t hw, if_pos rfl, if_pos rfl]
          exact ⟨vx _ rfl e.1, e.2⟩
      · have hw' := wB_f (fun h => hw ((xW_isW hs _).mpr h))
        refine Ex.ret ⟨?_, FX.refl, fun R hR => ⟨P, rfl, ?_⟩⟩
        · rw [bn_ok]; unfold opS; rw [hw']; exact hs
        · rw [bn_ok] at hR; unfold opS at hR; rw [hw', if_neg (by decide)] at hR
          cases hR
          unfold opV opN
          rw [hw', if_neg (by decide), if_neg (by decide)]
          exact ⟨rfl, rfl⟩
  exact Ex.cb key (fun x g1 L1 hq => h x g1 L1 hq.1 hq.2.1 hq.2.2)
theorem s_opt_maybe {p1 p2 : Int32} {K : Int32 → gT → lT → Option (ρ × zS)} (hfu : 1180591620717411303424 ≤ fu) (hs : ST b n r g) (h : ∀ (x : Int32) g1 L1, ST b n (bn r (opS b n 9 p1.toInt)) g1 → FX [3, 4, 5, 6, 7, 8] [] g g1 → (∀ R, bn r (opS b n 9 p1.toInt) = .ok R → ∃ P, r = .ok P ∧ x.toInt = opV b n 9 p2.toInt P ∧ R = opN b n 9 P) → Ex (K x g1 L1) Q) : Ex (cb (fX6_readOption_5_maybe fu p1 p2 g L) K) Q := by
  have key : Ex (fX6_readOption_5_maybe fu p1 p2 g L) (fun (x : Int32) g1 L1 => ST b n (bn r (opS b n 9 p1.toInt)) g1 ∧ FX [3, 4, 5, 6, 7, 8] [] g g1 ∧ (∀ R, bn r (opS b n 9 p1.toInt) = .ok R → ∃ P, r = .ok P ∧ x.toInt = opV b n 9 p2.toInt P ∧ R = opN b n 9 P)) := by
    unfold fX6_readOption_5_maybe
    cases r with
    | error p => exact e_maybeW hfu hs.1 (fun h => absurd h (xW_B hs.2.1 _)) (fun _ => Ex.ret ⟨hs, FX.refl, fun R hR => nomatch hR⟩)
    | ok P =>
      have hs : cX b n P g := hs
      refine e_maybeW hfu hs.1 (fun hw => ?_) (fun hw => ?_)
      · have hw := (xW_isW hs _).mp hw
        refine x_adv hfu hs (fun g1 L1 k1 k2 => ?_)
        refine s_num (r := .ok (nx b n P)) hfu k1 (fun x g2 L2 m1 m2 vx => Ex.ret ⟨?_, (k2.mo (by decide) (by decide)).tr m2, fun R hR => ⟨P, rfl, ?_⟩⟩)
        · rw [bn_ok]; unfold opS; rw [wB_t hw]; exact m1
        · rw [bn_ok] at hR; unfold opS at hR; rw [wB_t hw, if_pos rfl] at hR
          have e := nuS_ok hR
          unfold opV opN
          rw [wB_t hw, if_pos rfl, if_pos rfl]
          exact ⟨vx _ rfl e.1, e.2⟩
      · have hw' := wB_f (fun h => hw ((xW_isW hs _).mpr h))
        refine Ex.ret ⟨?_, FX.refl, fun R hR => ⟨P, rfl, ?_⟩⟩
        · rw [bn_ok]; unfold opS; rw [hw']; exact hs
        · rw [bn_ok] at hR; unfold opS at hR; rw [hw', if_neg (by decide)] at hR
          cases hR
          unfold opV opN
          rw [hw', if_neg (by decide), if_neg (by decide)]
          exact ⟨rfl, rfl⟩
  exact Ex.cb key (fun x g1 L1 hq => h x g1 L1 hq.1 hq.2.1 hq.2.2)
theorem s_opt_gap {p1 p2 : Int32} {K : Int32 → gT → lT → Option (ρ × zS)} (hfu : 1180591620717411303424 ≤ fu) (hs : ST b n r g) (h : ∀ (x : Int32) g1 L1, ST b n (bn r (opS b n 10 p1.toInt)) g1 → FX [3, 4, 5, 6, 7, 8] [] g g1 → (∀ R, bn r (opS b n 10 p1.toInt) = .ok R → ∃ P, r = .ok P ∧ x.toInt = opV b n 10 p2.toInt P ∧ R = opN b n 10 P) → Ex (K x g1 L1) Q) : Ex (cb (fX6_readOption_5_gap fu p1 p2 g L) K) Q := by
  have key : Ex (fX6_readOption_5_gap fu p1 p2 g L) (fun (x : Int32) g1 L1 => ST b n (bn r (opS b n 10 p1.toInt)) g1 ∧ FX [3, 4, 5, 6, 7, 8] [] g g1 ∧ (∀ R, bn r (opS b n 10 p1.toInt) = .ok R → ∃ P, r = .ok P ∧ x.toInt = opV b n 10 p2.toInt P ∧ R = opN b n 10 P)) := by
    unfold fX6_readOption_5_gap
    cases r with
    | error p => exact e_gapW hfu hs.1 (fun h => absurd h (xW_B hs.2.1 _)) (fun _ => Ex.ret ⟨hs, FX.refl, fun R hR => nomatch hR⟩)
    | ok P =>
      have hs : cX b n P g := hs
      refine e_gapW hfu hs.1 (fun hw => ?_) (fun hw => ?_)
      · have hw := (xW_isW hs _).mp hw
        refine x_adv hfu hs (fun g1 L1 k1 k2 => ?_)
        refine s_num (r := .ok (nx b n P)) hfu k1 (fun x g2 L2 m1 m2 vx => Ex.ret ⟨?_, (k2.mo (by decide) (by decide)).tr m2, fun R hR => ⟨P, rfl, ?_⟩⟩)
        · rw [bn_ok]; unfold opS; rw [wB_t hw]; exact m1
        · rw [bn_ok] at hR; unfold opS at hR; rw [wB_t hw, if_pos rfl] at hR
          have e := nuS_ok hR
          unfold opV opN
          rw [wB_t hw, if_pos rfl, if_pos rfl]
          exact ⟨vx _ rfl e.1, e.2⟩
      · have hw' := wB_f (fun h => hw ((xW_isW hs _).mpr h))
        refine Ex.ret ⟨?_, FX.refl, fun R hR => ⟨P, rfl, ?_⟩⟩
        · rw [bn_ok]; unfold opS; rw [hw']; exact hs
        · rw [bn_ok] at hR; unfold opS at hR; rw [hw', if_neg (by decide)] at hR
          cases hR
          unfold opV opN
          rw [hw', if_neg (by decide), if_neg (by decide)]
          exact ⟨rfl, rfl⟩
  exact Ex.cb key (fun x g1 L1 hq => h x g1 L1 hq.1 hq.2.1 hq.2.2)
end XLE
theorem zI.les {g : gT} {q j : Nat} {x : Int32} (hI : zI XT g) (h1 : 69 ≤ q) (h2 : q < 81) (hj : j ≠ 1) : zI XT (upd2 g q j x) := hI.updN (xt_lesN (by omega) h2 hj)
theorem KP.q {g g1 : gT} {A : List Nat} {q : Nat} (h : FX A [] g g1) (hq : q ≠ 5) : g1 q = g q := h.2 q hq (List.not_mem_nil)
/-- those waited for, in a lesson's cells -/
def wX (acc : List Int) (q : Nat) (g : gT) : Prop := (g q 1).toInt = (acc.length : Int) ∧ g q 2 = mW acc ∧ ∀ i (hi : i < acc.length), (g (q + 24) i).toInt = acc[i]
def waR (b : Nat → Int32) (n : Nat) (r : sR) : List Int × Nat := match r with
  | .error p => ([], p)
  | .ok P => waL b n 8 [] P
set_option maxHeartbeats 8000000 in
/-- those waited for -/
theorem s_waited {fu : Nat} (hfu : 1180591620717411303424 ≤ fu) {b : Nat → Int32} {n q : Nat} {g : gT} {L : lT} {r : sR} (hq1 : 69 ≤ q) (hq2 : q < 81) (hs : ST b n r g) (hl : (g 2 2).toInt ≤ 11) (h1 : (g q 1).toInt = 0) (h2 : g q 2 = 0) : Ex (fX6_readWaited_5_les fu q g L) (fun (_ : Unit) g1 L1 => ST b n (bn r (waS b n (g 2 2).toInt (g q 10).toInt 8 [])) g1 ∧ KP q g g1 ∧ (∀ j, j ≠ 1 → j ≠ 2 → g1 q j = g q j) ∧ (∀ R, bn r (waS b n (g 2 2).toInt (g q 10).toInt 8 []) = .ok R → R = (waR b n r).2 ∧ wX (waR b n r).1 q g1)) := by
  generalize hW : waR b n r = W
  generalize hR : bn r (waS b n (g 2 2).toInt (g q 10).toInt 8 []) = R
  unfold fX6_readWaited_5_les fX6_readWaited_5_les_l2
  have fin : ∀ (g' : gT) (L' : lT), ST b n R g' → KP q g g' → (∀ j, j ≠ 1 → j ≠ 2 → g' q j = g q j) → ((∃ p, R = .error p) ∨ (¬ (g' q 1).toInt < (g' q 10).toInt ∧ (g' q 1).toInt ≠ 0 ∧ (∀ R1, R = .ok R1 → R1 = W.2 ∧ wX W.1 q g'))) → Ex (fX6_readWaited_5_les_p102 fu q g' L') (fun (_ : Unit) g1 L1 => ST b n R g1 ∧ KP q g g1 ∧ (∀ j, j ≠ 1 → j ≠ 2 → g1 q j = g q j) ∧ (∀ R1, R = .ok R1 → R1 = W.2 ∧ wX W.1 q g1)) := by
    intro g' L' k1 k2 kj k3
    unfold fX6_readWaited_5_les_p102 fX6_readWaited_5_les_p119 fX6_readWaited_5_les_p131
    rcases k3 with ⟨p, rfl⟩ | ⟨k3, k4, k5⟩
    · have hk := k1.2.1
      refine Ex.ite (fun _ => ?_) (fun _ => x_refB hk ?_)
      · exact Ex.ite (fun _ => x_refB hk (Ex.ret ⟨k1, k2, kj, fun R1 h => nomatch h⟩)) (fun _ => Ex.ret ⟨k1, k2, kj, fun R1 h => nomatch h⟩)
      · exact Ex.ite (fun _ => x_refB hk (Ex.ret ⟨k1, k2, kj, fun R1 h => nomatch h⟩)) (fun _ => Ex.ret ⟨k1, k2, kj, fun R1 h => nomatch h⟩)
    · refine Ex.ite (fun _ => ?_) (fun c => absurd (icc_nle (m := (g' q 10).toInt) (n := (g' q 1).toInt) rfl rfl c) k3)
      exact Ex.ite (fun c => absurd (icc_eq (m := (g' q 1).toInt) (n := 0) rfl (by decide) c) k4) (fun _ => Ex.ret ⟨k1, k2, kj, k5⟩)
  refine Ex.loop (α := Int32 × gT × lT) (fun v => (0 ≤ v.1.toInt ∧ v.1.toInt ≤ 7) ∧ KP q g v.2.1 ∧ (∀ j, j ≠ 1 → j ≠ 2 → v.2.1 q j = g q j) ∧ ((∃ (acc : List Int) (P f : Nat), R = waS b n (g 2 2).toInt (g q 10).toInt f acc P ∧ W = waL b n f acc P ∧ wX acc q v.2.1 ∧ cX b n P v.2.1 ∧ (v.2.1 q 1).toInt = (acc.length : Int) ∧ v.2.1 q 10 = g q 10 ∧ bR (v.2.1 q 2) acc ∧ v.1.toInt = (acc.length : Int) ∧ acc.length ≤ 6 ∧ f + acc.length = 8) ∨ (∃ p, R = .error p ∧ bX p v.2.1))) (fun v => 8 - v.1.toInt) (by omega) (by show 8 - (0 : Int32).toInt < (fu : Int); have : (0 : Int32).toInt = 0 := rfl; omega) ⟨(show 0 ≤ (0 : Int32).toInt ∧ (0 : Int32).toInt ≤ 7 from by decide), KP.refl, fun _ _ _ => rfl, ?_⟩ (fun k2 v hv ih => ?_)
  · cases r with
    | error p => exact Or.inr ⟨p, hR.symm, hs⟩
    | ok P => exact Or.inl ⟨[], P, 8, hR.symm, hW.symm, ⟨h1, h2, fun i hi => absurd hi (Nat.not_lt_zero _)⟩, hs, h1, rfl, (show bR (g q 2) [] by rw [h2]; exact bR_0), rfl, by decide, rfl⟩
  obtain ⟨v2, g', L'⟩ := v
  obtain ⟨hv, hK, hJ, hI⟩ := hv
  have hv : 0 ≤ v2.toInt ∧ v2.toInt ≤ 7 := hv
  have hK : KP q g g' := hK
  have hJ : ∀ j, j ≠ 1 → j ≠ 2 → g' q j = g q j := hJ
  have hj5 : ∀ {A : List Nat} {ga gb : gT}, FX A [] ga gb → (∀ j, j ≠ 1 → j ≠ 2 → ga q j = g q j) → ∀ j, j ≠ 1 → j ≠ 2 → gb q j = g q j := fun hF h j a c => by rw [KP.q hF (show q ≠ 5 by omega)]; exact h j a c
  show Ex (fX6_readWaited_5_les_s2 fu q k2 v2 g' L') _
  unfold fX6_readWaited_5_les_s2
  rcases hI with ⟨acc, P, f, e1, eW, eX, e2, e3, e4, e5, e6, e7, e8⟩ | ⟨p, e1, e2⟩
  rotate_left
  · have e2 : bX p g' := e2
    have hk := e2.2.1
    have go := fin g' L' (by rw [e1]; exact e2) hK hJ (Or.inl ⟨p, e1⟩)
    refine Ex.ite (fun _ => go) (fun _ => ?_)
    exact Ex.ite (fun c => by have := icc_eq (m := (g' 5 4).toInt) (n := 1) rfl (by decide) c; omega) (fun _ => go)
  have e2 : cX b n P g' := e2
  have eX : wX acc q g' := eX
  have e3 : (g' q 1).toInt = (acc.length : Int) := e3
  have e4 : g' q 10 = g q 10 := e4
  have e5 : bR (g' q 2) acc := e5
  have e6 : v2.toInt = (acc.length : Int) := e6
  obtain ⟨f, rfl⟩ : ∃ f', f = f' + 1 := ⟨f - 1, by omega⟩
  unfold waS at e1
  unfold waL at eW
  obtain ⟨a1, a2, a3, a4, a5, a6, a7, a8, a9, a10, a11⟩ := id e2
  have q3 := a1 5 3 0 700 rfl
  have q5 := a1 5 5 0 700 rfl
  have q6 := a1 5 6 0 9999 rfl
  have g22 : (g' 2 2).toInt = (g 2 2).toInt := by rw [hK.1 2 (by decide) (by decide)]
  refine Ex.ite (fun c => by have := icc_lt (m := 6) (n := v2.toInt) (by decide) rfl c; omega) (fun _ => ?_)
  generalize hw : v2 + 1 = w
  have ew : w.toInt = v2.toInt + 1 := by rw [← hw]; exact ic_addc rfl (by decide) (by omega) (by omega)
  have badK : ∀ (wv : Int32) (K : Unit → gT → lT → Option (Unit × zS)), wv.toInt ≠ 0 → R = .error P → (∀ g1 L1, K () g1 L1 = k2 (w, g1, L1)) → Ex (cb (fX6_refuse_5 fu wv g' L') K) (fun (_ : Unit) g1 L1 => ST b n R g1 ∧ KP q g g1 ∧ (∀ j, j ≠ 1 → j ≠ 2 → g1 q j = g q j) ∧ (∀ R1, R = .ok R1 → R1 = W.2 ∧ wX W.1 q g1)) := by
    intro wv K hwv hRe hKK
    refine x_ref hwv e2 (fun g1 m1 m2 => ?_)
    rw [hKK]
    exact ih (w, g1, L') ⟨(show 0 ≤ w.toInt ∧ w.toInt ≤ 7 by omega), hK.tr (KP.x m2 (by decide) (by decide)), hj5 m2 hJ, Or.inr ⟨P, hRe, m1⟩⟩ (show 8 - w.toInt < 8 - v2.toInt by omega) (show 0 < 8 - v2.toInt by omega)
  refine Ex.ite (fun c1 => ?_) (fun c1 => ?_)
  rotate_left
  · have c1 := icc_neq (m := (g' 5 4).toInt) (n := 1) rfl (by decide) c1
    rw [if_neg (show ¬ tK b n P = 1 by omega)] at e1 eW
    by_cases h0 : acc.length = 0
    · rw [if_pos h0] at e1
      -- neither named: a fault here
      have hz : (g' q 1).toInt = 0 := by omega
      unfold fX6_readWaited_5_les_p102 fX6_readWaited_5_les_p119 fX6_readWaited_5_les_p131
      refine Ex.ite (fun _ => ?_) (fun _ => ?_)
      · refine Ex.ite (fun _ => ?_) (fun c => absurd hz (icc_neq (m := (g' q 1).toInt) (n := 0) rfl (by decide) c))
        exact x_ref (by decide) e2 (fun g1 m1 m2 => Ex.ret ⟨by rw [e1]; exact m1, hK.tr (KP.x m2 (by decide) (by decide)), hj5 m2 hJ, fun R1 h => by rw [e1] at h; exact nomatch h⟩)
      · refine x_ref (by decide) e2 (fun g1 m1 m2 => ?_)
        have hk1 := hK.tr (KP.x m2 (by decide) (by decide))
        exact Ex.ite (fun _ => x_refB m1.2.1 (Ex.ret ⟨by rw [e1]; exact m1, hk1, hj5 m2 hJ, fun R1 h => by rw [e1] at h; exact nomatch h⟩)) (fun _ => Ex.ret ⟨by rw [e1]; exact m1, hk1, hj5 m2 hJ, fun R1 h => by rw [e1] at h; exact nomatch h⟩)
    · rw [if_neg h0] at e1
      by_cases hsm : (acc.length : Int) < (g q 10).toInt
      · rw [if_pos hsm] at e1
        unfold fX6_readWaited_5_les_p102 fX6_readWaited_5_les_p119 fX6_readWaited_5_les_p131
        refine Ex.ite (fun c => ?_) (fun _ => ?_)
        · have c := icc_le (m := (g' q 10).toInt) (n := (g' q 1).toInt) rfl rfl c
          rw [e4] at c
          omega
        · refine x_ref (by decide) e2 (fun g1 m1 m2 => ?_)
          have hk1 := hK.tr (KP.x m2 (by decide) (by decide))
          exact Ex.ite (fun _ => x_refB m1.2.1 (Ex.ret ⟨by rw [e1]; exact m1, hk1, hj5 m2 hJ, fun R1 h => by rw [e1] at h; exact nomatch h⟩)) (fun _ => Ex.ret ⟨by rw [e1]; exact m1, hk1, hj5 m2 hJ, fun R1 h => by rw [e1] at h; exact nomatch h⟩)
      · rw [if_neg hsm] at e1
        exact fin g' L' (by rw [e1]; exact e2) hK hJ (Or.inr ⟨by rw [e4]; omega, by omega, fun R1 h => by rw [e1] at h; cases h; rw [eW]; exact ⟨rfl, eX⟩⟩)
  have c1 := icc_eq (m := (g' 5 4).toInt) (n := 1) rfl (by decide) c1
  rw [if_pos (show tK b n P = 1 by omega)] at e1 eW
  unfold fX6_isTooLong_5 fX6_isTooLong_5_p18 fX6_readWaited_5_les_p32 fX6_readWaited_5_les_p96
  rw [ckb0, ckb1, hw]
  have ez : ((g' 5 3) - (g' 5 5)).toInt = (g' 5 3).toInt - (g' 5 5).toInt := ic_subc rfl rfl (by omega) (by omega)
  by_cases c2 : (g' 5 3) - (g' 5 5) ≤ 4
  rotate_left
  · rw [if_neg c2]
    have c2 := icc_nle (m := ((g' 5 3) - (g' 5 5)).toInt) (n := 4) rfl (by decide) c2
    rw [if_neg (fun h => by have := h.1; omega)] at e1
    exact e_b1 (badK 2 _ (by decide) e1 (fun _ _ => rfl))
  rw [if_pos c2]
  have c2 := icc_le (m := ((g' 5 3) - (g' 5 5)).toInt) (n := 4) rfl (by decide) c2
  refine e_b0 ?_
  refine Ex.ite (fun c3 => ?_) (fun c3 => ?_)
  rotate_left
  · have c3 := icc_nlt (m := (g' q 1).toInt) (n := 6) rfl (by decide) c3
    rw [if_neg (fun h => by have := h.2; omega)] at e1
    exact badK 2 _ (by decide) e1 (fun _ _ => rfl)
  have c3 := icc_lt (m := (g' q 1).toInt) (n := 6) rfl (by decide) c3
  rw [if_pos ⟨by omega, by omega⟩] at e1
  refine Ex.ite (fun c4 => ?_) (fun c4 => ?_)
  rotate_left
  · have c4 := icc_nlt (m := (g' 5 6).toInt) (n := (g' 2 2).toInt) rfl rfl c4
    rw [if_neg (by omega)] at e1
    exact badK 3 _ (by decide) e1 (fun _ _ => rfl)
  have c4 := icc_lt (m := (g' 5 6).toInt) (n := (g' 2 2).toInt) rfl rfl c4
  rw [if_pos (by omega)] at e1
  have hbt := bR_t (k := g' 5 6) e5 (by omega) (by omega)
  rw [a9] at hbt
  refine Ex.ite (fun c5 => ?_) (fun c5 => ?_)
  rotate_left
  · rw [if_pos (Decidable.byContradiction (fun h => c5 (hbt.mpr h)))] at e1
    exact badK 4 _ (by decide) e1 (fun _ _ => rfl)
  rw [if_neg (hbt.mp c5)] at e1
  -- one more is named
  unfold fX5_waitFor_les fX5_waitFor_les_p41
  rw [if_neg (fun h => by have := icc_le (m := 6) (n := (g' q 1).toInt) (by decide) rfl h; omega), ck_eq (by omega) (by omega)]
  show Ex (cb (some ((), ((_, L') : zS))) _) _
  generalize hga : upd2 g' (q + 24) (g' q 1).toNatClampNeg (g' 5 6) = ga
  have hIa : zI XT ga := by rw [← hga]; exact a1.upd (xt_wai (by omega)) (by omega) (by omega)
  have sa : ST b n (.ok P) ga := by rw [← hga] at hIa ⊢; exact ST.u (r := .ok P) e2 hIa (by omega) (by omega)
  have ka : KP q g ga := by rw [← hga]; exact hK.u hq1 (Or.inr rfl)
  have aq : ga q = g' q := by rw [← hga]; exact funext fun i => upd2_nk (by omega)
  have ew1 : (ga q 1 + 1).toInt = (acc.length : Int) + 1 := by rw [aq]; exact ic_addc e3 (by decide) (by omega) (by omega)
  generalize hgb : upd2 ga q 1 (ga q 1 + 1) = gb
  have hIb : zI XT gb := by rw [← hgb]; exact hIa.upd (xt_les (by omega) hq2) (by omega) (by omega)
  have sb : ST b n (.ok P) gb := by rw [← hgb] at hIb ⊢; exact sa.u hIb (by omega) (by omega)
  have kb : KP q g gb := by rw [← hgb]; exact ka.u hq1 (Or.inl rfl)
  have b1 : (gb q 1).toInt = (acc.length : Int) + 1 := by rw [← hgb, upd2_at]; exact ew1
  have b2 : gb q 2 = g' q 2 := by rw [← hgb, upd2_nj (by decide), aq]
  have b10 : gb q 10 = g q 10 := by rw [← hgb, upd2_nj (by decide), aq]; exact e4
  generalize hgc : upd2 gb q 2 (gb q 2 ||| ((1 : Int32) <<< ((g' 5 6) &&& 31))) = gc
  have hIc : zI XT gc := by rw [← hgc]; exact hIb.les hq1 hq2 (by decide)
  have sc : ST b n (.ok P) gc := by rw [← hgc] at hIc ⊢; exact sb.u hIc (by omega) (by omega)
  have kc : KP q g gc := by rw [← hgc]; exact kb.u hq1 (Or.inl rfl)
  have c1' : (gc q 1).toInt = (acc.length : Int) + 1 := by rw [← hgc, upd2_nj (by decide)]; exact b1
  have c2' : gc q 2 = g' q 2 ||| ((1 : Int32) <<< ((g' 5 6) &&& 31)) := by rw [← hgc, upd2_at, b2]
  have c10' : gc q 10 = g q 10 := by rw [← hgc, upd2_nj (by decide)]; exact b10
  show Ex (cb (fX6_advance_5 fu gc L') (fun _ g1 L1 => k2 (w, g1, L1))) _
  refine x_adv hfu sc (fun gd Ld m1 m2 => ?_)
  have dq : gd q = gc q := KP.q m2 (by omega)
  have dw : gd (q + 24) = gc (q + 24) := KP.q m2 (by omega)
  have cj : ∀ j, j ≠ 1 → j ≠ 2 → gc q j = g q j := fun j a c => by rw [← hgc, upd2_nj c, ← hgb, upd2_nj a, aq]; exact hJ j a c
  have cw : gc (q + 24) = ga (q + 24) := by rw [← hgc, ← hgb]; exact funext fun i => by rw [upd2_nk (by omega), upd2_nk (by omega)]
  have eNl : (g' q 1).toNatClampNeg = acc.length := by rw [nc, e3]; omega
  refine ih (w, gd, Ld) ⟨(show 0 ≤ w.toInt ∧ w.toInt ≤ 7 by omega), kc.tr (KP.x m2 (by decide) (by decide)), hj5 m2 cj, Or.inl ⟨acc ++ [tV b n P], nx b n P, f, e1, eW, ⟨?_, ?_, ?_⟩, m1, ?_, ?_, ?_, ?_, ?_, ?_⟩⟩ (show 8 - w.toInt < 8 - v2.toInt by omega) (show 0 < 8 - v2.toInt by omega)
  · show (gd q 1).toInt = _
    rw [dq, c1', List.length_append]; rfl
  · show gd q 2 = _
    rw [dq, c2', ← a9, mW_ap, eX.2.1]
  · intro i hi
    show (gd (q + 24) i).toInt = _
    rw [dw, cw, ← hga, eNl]
    rw [List.length_append] at hi
    have hi : i < acc.length + 1 := hi
    by_cases hil : i < acc.length
    · rw [upd2_nj (by omega), List.getElem_append_left hil]; exact eX.2.2 i hil
    · obtain rfl : i = acc.length := by omega
      rw [upd2_at, List.getElem_append_right (Nat.le_refl _)]
      show (g' 5 6).toInt = [tV b n P][acc.length - acc.length]
      rw [a9]
      simp
  · show (gd q 1).toInt = _
    rw [dq, c1', List.length_append]; rfl
  · show gd q 10 = g q 10
    rw [dq]; exact c10'
  · show bR (gd q 2) _
    rw [dq, c2', ← a9]; exact bR_or e5 (by omega) (by omega)
  · show w.toInt = _
    rw [List.length_append]; show w.toInt = ((acc.length + 1 : Nat) : Int); omega
  · rw [List.length_append]; show acc.length + 1 ≤ 6; omega
  · rw [List.length_append]; show f + (acc.length + 1) = 8; omega
