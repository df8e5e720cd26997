/-! ===== bits ===== -/
def tbi (x : Int32) (o : Nat) : Bool := x.toBitVec.getLsbD o
theorem tb_or {x y : Int32} {o : Nat} : tbi (x ||| y) o = (tbi x o || tbi y o) := by
  unfold tbi
  rw [Int32.toBitVec_or, BitVec.getLsbD_or]
theorem tb_and {x y : Int32} {o : Nat} : tbi (x &&& y) o = (tbi x o && tbi y o) := by
  unfold tbi
  rw [Int32.toBitVec_and, BitVec.getLsbD_and]
theorem tb_xor {x y : Int32} {o : Nat} : tbi (x ^^^ y) o = Bool.xor (tbi x o) (tbi y o) := by
  unfold tbi
  rw [Int32.toBitVec_xor, BitVec.getLsbD_xor]
theorem tb_0 {o : Nat} : tbi 0 o = false := by
  unfold tbi
  rw [show (0 : Int32).toBitVec = 0#32 from rfl, BitVec.getLsbD_zero]
theorem tb_n1 : ∀ o, o < 32 → tbi (-1) o = true := by decide
theorem tb_n1x {x : Int32} {o : Nat} (h : o < 32) : tbi (x ^^^ -1) o = ! tbi x o := by
  rw [tb_xor, tb_n1 o h, Bool.xor_true]
theorem smod_of : ∀ o : Nat, o < 12 → ((Int32.ofInt (o : Int) &&& 31).toBitVec.smod 32).toNat = o := by decide
theorem sh_bit {x k : Int32} {o : Nat} (hk : (k.toBitVec.smod 32).toNat = o) (ho : o < 32) : (x >>> k) &&& 1 = if tbi x o = true then 1 else 0 := by
  refine Int32.toBitVec_inj.mp ?_
  rw [Int32.toBitVec_and, Int32.toBitVec_shiftRight, show (1 : Int32).toBitVec = 1#32 from rfl, BitVec.and_one_eq_setWidth_ofBool_getLsbD, BitVec.getLsbD_sshiftRight', hk, if_pos (show o + 0 < 32 by omega), Nat.add_zero]
  unfold tbi
  cases x.toBitVec.getLsbD o <;> rfl
theorem stb_e {x : Int32} {o : Nat} (ho : o < 12) : stb x o = if tbi x o = true then 1 else 0 := sh_bit (smod_of o ho) (by omega)
theorem stb_1i {x : Int32} {o : Nat} (ho : o < 12) : stb x o = 1 ↔ tbi x o = true := by
  rw [stb_e ho]
  cases tbi x o <;> decide
theorem stb_0i {x : Int32} {o : Nat} (ho : o < 12) : stb x o = 0 ↔ tbi x o = false := by
  rw [stb_e ho]
  cases tbi x o <;> decide
theorem tb_s : ∀ i : Nat, i < 12 → ∀ o : Nat, o < 12 → tbi ((1 : Int32) <<< (Int32.ofInt (i : Int) &&& 31)) o = decide (i = o) := by decide +kernel
/-- the lessons whose ends are later -/
def fLB (en sv : Nat → Int32) (i : Nat) (a : Int32) : Int32 := if en i ≤ sv i then a else a ||| ((1 : Int32) <<< (Int32.ofInt (i : Int) &&& 31))
theorem flb_t {en sv : Nat → Int32} {o : Nat} (o12 : o < 12) : ∀ n : Nat, n ≤ 12 → (tbi (fo (fLB en sv) n) o = true ↔ (o < n ∧ ¬ en o ≤ sv o)) := by
  intro n
  induction n with
  | zero =>
    intro _
    show tbi 0 o = true ↔ _
    rw [tb_0]
    exact ⟨fun h => absurd h (by decide), fun h => absurd h.1 (Nat.not_lt_zero _)⟩
  | succ n ih =>
    intro hn
    have ih := ih (by omega)
    show tbi (fLB en sv n (fo (fLB en sv) n)) o = true ↔ _
    unfold fLB
    by_cases c : en n ≤ sv n
    · rw [if_pos c]
      refine ih.trans ⟨fun h => ⟨by omega, h.2⟩, fun h => ⟨?_, h.2⟩⟩
      by_cases e : o = n
      · rw [e] at h; exact absurd c h.2
      · omega
    · rw [if_neg c, tb_or, tb_s n (by omega) o o12]
      by_cases e : n = o
      · rw [e] at c
        rw [e, decide_eq_true rfl, Bool.or_true]
        exact ⟨fun _ => ⟨by omega, c⟩, fun _ => rfl⟩
      · rw [decide_eq_false e, Bool.or_false]
        exact ih.trans ⟨fun h => ⟨by omega, h.2⟩, fun h => ⟨by omega, h.2⟩⟩
