/-! ===== the longs stand while lessons run ===== -/
section PLL
variable {fu : Nat} {g : gT} {L : lT}
theorem pl_up {p1 : Int32} : Pc (fX1_isUpstairs_8 fu p1 g L) (fun _ _ L1 => L1 = L) := by
  unfold fX1_isUpstairs_8 fX1_isUpstairs_8_p18
  exact pc_ck (fun _ _ => pc_ite (fun _ => pc_ckb (pc_some rfl)) (fun _ => pc_ckb (pc_some rfl)))
theorem pl_way {p1 p2 : Int32} : Pc (fX1_way_8 fu p1 p2 g L) (fun _ _ L1 => L1 = L) := by
  unfold fX1_way_8 fX1_way_8_p55
  refine pc_ck (fun _ _ => pc_ck (fun _ _ => pc_lti (fun _ _ => pc_cb pl_up (fun _ _ L1 e => ?_))))
  subst e
  refine pc_cb pl_up (fun _ _ L2 e => ?_)
  subst e
  exact pc_ite (fun _ => pc_some rfl) (fun _ => pc_ite (fun _ => pc_ck (fun _ _ => pc_ltn (fun _ _ => pc_cnz (pc_some rfl)))) (fun _ => pc_some rfl))
theorem pl_co {p1 p2 p3 : Int32} : Pc (fX1_comingOf_8 fu p1 p2 p3 g L) (fun _ _ L1 => L1 = L) := by
  unfold fX1_comingOf_8 fX1_comingOf_8_l6
  refine pc_loop (fun v => v.2.2.2 = L) (fun k6 hk v hv => ?_) rfl
  obtain ⟨v4, v5, g', L'⟩ := v
  replace hv : L' = L := hv
  subst hv
  show Pc (fX1_comingOf_8_s6 fu p1 p2 k6 v4 v5 g' L') _
  unfold fX1_comingOf_8_s6
  refine pc_ite (fun _ => pc_some rfl) (fun _ => ?_)
  unfold fX1_comingOf_8_l18
  refine pc_loop (fun v => v.2.2.2 = L') (fun k18 hk2 v hv => ?_) rfl
  obtain ⟨v6, v7, g2, L2⟩ := v
  replace hv : L2 = L' := hv
  subst hv
  show Pc (fX1_comingOf_8_s18 fu k6 p1 p2 v4 v5 k18 v6 v7 g2 L2) _
  unfold fX1_comingOf_8_s18 fX1_comingOf_8_p84 fX1_comingOf_8_p48
  refine pc_ite (fun _ => pc_ite (fun _ => hk _ rfl) (fun _ => pc_ck (fun _ _ => pc_ite (fun _ => hk _ rfl) (fun _ => pc_ck (fun _ _ => pc_lti (fun _ _ => hk _ rfl)))))) (fun _ => pc_ck (fun _ _ => pc_ck (fun _ _ => pc_ite (fun _ => pc_lti (fun _ _ => hk2 _ rfl)) (fun _ => pc_lti (fun _ _ => hk2 _ rfl)))))
theorem pl_fc {p1 : Int32} {q : Nat} : Pc (fX1_firstComingAt_8_les fu p1 q g L) (fun _ _ L1 => L1 = L) := by
  unfold fX1_firstComingAt_8_les fX1_firstComingAt_8_les_l2
  refine pc_loop (fun v => v.2.2 = L) (fun k2 hk v hv => ?_) rfl
  obtain ⟨v3, g', L'⟩ := v
  replace hv : L' = L := hv
  subst hv
  show Pc (fX1_firstComingAt_8_les_s2 fu p1 q k2 v3 g' L') _
  unfold fX1_firstComingAt_8_les_s2
  exact pc_ite (fun _ => pc_some rfl) (fun _ => pc_ck (fun _ _ => pc_ite (fun _ => pc_ck (fun _ _ => pc_some rfl)) (fun _ => hk _ rfl)))
theorem pl_bt {p1 v3 : Int32} {q : Nat} : Pc (fX1_begin_8_les_p115 fu p1 q v3 g L) (fun _ _ L1 => L1 = L) := by
  unfold fX1_begin_8_les_p115
  refine pc_ite (fun _ => pc_ck (fun _ _ => pc_lti (fun _ _ => pc_ite (fun _ => pc_ck (fun _ _ => pc_st (fun _ _ => pc_cb pl_fc (fun _ _ L1 e => ?_)))) (fun _ => pc_ck (fun _ _ => pc_st (fun _ _ => pc_some rfl)))))) (fun _ => pc_some rfl)
  subst e
  exact pc_ck (fun _ _ => pc_st (fun _ _ => pc_some rfl))
theorem pl_be {p1 : Int32} {q : Nat} : Pc (fX1_begin_8_les fu p1 q g L) (fun _ _ L1 => L1 = L) := by
  unfold fX1_begin_8_les
  refine pc_ck (fun _ _ => pc_st (fun _ _ => pc_ck (fun _ _ => pc_st (fun g2 _ => pc_lti (fun x3 _ => ?_)))))
  unfold fX1_begin_8_les_l25
  refine pc_loop (fun v => v.2.2.2 = L) (fun k25 hk v hv => ?_) rfl
  obtain ⟨v3, v4, g', L'⟩ := v
  replace hv : L' = L := hv
  subst hv
  show Pc (fX1_begin_8_les_s25 fu p1 q k25 v3 v4 g' L') _
  unfold fX1_begin_8_les_s25
  refine pc_ite (fun _ => pc_ite (fun _ => pc_cb pl_co (fun _ _ L1 e => ?_)) (fun _ => pl_bt)) (fun _ => pc_ck (fun _ _ => pc_lti (fun _ _ => pc_ck (fun _ _ => pc_cb pl_way (fun _ _ L1 e => ?_)))))
  · subst e; exact pl_bt
  · subst e
    exact pc_ck (fun _ _ => pc_ck (fun _ _ => pc_st (fun _ _ => pc_ck (fun _ _ => pc_lti (fun _ _ => hk _ rfl)))))
theorem pl_jo {p1 p2 p3 : Int32} : Pc (fX8_joined fu p1 p2 p3 g L) (fun _ _ L1 => L1 = L) := by
  unfold fX8_joined fX8_joined_p102 fX8_joined_p103 fX8_joined_p89 fX8_joined_p78 fX8_joined_p67 fX8_joined_p112 fX8_joined_p117
  repeat' first
    | exact pc_cnz (pc_some rfl)
    | exact pc_some rfl
    | refine pc_ite (fun _ => ?_) (fun _ => ?_)
theorem pl_va {p1 : Int32} : Pc (fX8_value_3_48 fu p1 g L) (fun _ _ L1 => L1 = L) := by
  unfold fX8_value_3_48 fX8_value_3_48_p12
  refine pc_ite (fun _ => pc_some rfl) (fun _ => pc_ite (fun _ => pc_ck (fun _ _ => pc_lti (fun x3 _ => ?_))) (fun _ => pc_some rfl))
  unfold fX8_value_3_48_l24
  refine pc_loop (fun v => v.2.2.2 = L) (fun k24 hk v hv => ?_) rfl
  obtain ⟨v3, v4, g', L'⟩ := v
  replace hv : L' = L := hv
  subst hv
  show Pc (fX8_value_3_48_s24 fu p1 k24 v3 v4 g' L') _
  unfold fX8_value_3_48_s24 fX8_value_3_48_p126 fX8_value_3_48_p82 fX8_value_3_48_p167 fX8_value_3_48_p188
  refine pc_ck (fun _ _ => pc_ite (fun _ => pc_ite (fun _ => pc_ck (fun _ _ => pc_some rfl)) (fun _ => pc_some rfl)) (fun _ => pc_ck (fun _ _ => pc_lti (fun x6 _ => pc_ite (fun _ => pc_ite (fun _ => pc_ite (fun _ => pc_ck (fun _ _ => pc_ite (fun _ => pc_ck (fun _ _ => pc_st (fun _ _ => hk _ rfl))) (fun _ => pc_ck (fun _ _ => pc_st (fun _ _ => hk _ rfl))))) (fun _ => pc_some rfl)) (fun _ => pc_ite (fun _ => pc_ck (fun _ _ => pc_ck (fun _ _ => pc_cb pl_jo (fun _ _ L1 e => ?_)))) (fun _ => pc_some rfl))) (fun _ => pc_ite (fun _ => pc_ite (fun _ => pc_ck (fun _ _ => pc_ck (fun _ _ => pc_st (fun _ _ => hk _ rfl)))) (fun _ => pc_ck (fun _ _ => pc_st (fun _ _ => hk _ rfl)))) (fun _ => pc_some rfl))))))
  subst e
  exact pc_ck (fun _ _ => pc_st (fun _ _ => hk _ rfl))
theorem pl_ot {p1 t0 : Int32} {q : Nat} : Pc (fX1_overrun_8_les_p29 fu p1 q t0 g L) (fun _ _ L1 => L1 = L) := by
  unfold fX1_overrun_8_les_p29 fX1_overrun_8_les_p151
  refine pc_ck (fun _ _ => pc_lti (fun _ _ => pc_ite (fun _ => pc_some rfl) (fun _ => pc_ck (fun _ _ => pc_ck (fun _ _ => pc_st (fun _ _ => pc_ck (fun _ _ => pc_ck (fun _ _ => pc_st (fun _ _ => pc_ck (fun _ _ => pc_ck (fun _ _ => pc_st (fun _ _ => pc_ck (fun _ _ => pc_ck (fun _ _ => pc_st (fun _ _ => pc_ck (fun _ _ => pc_st (fun _ _ => pc_ck (fun _ _ => pc_st (fun _ _ => pc_cb pl_va (fun _ _ L1 e => ?_))))))))))))))))))))
  subst e
  exact pc_some rfl
theorem pl_ou {p1 : Int32} {q : Nat} : Pc (fX1_overrun_8_les fu p1 q g L) (fun _ _ L1 => L1 = L) := by
  unfold fX1_overrun_8_les
  exact pc_ite (fun _ => pc_some rfl) (fun _ => pc_ite (fun _ => pl_ot) (fun _ => pl_ot))
theorem pl_ro {p1 : Int32} : Pc (fX1_runOne_8 fu p1 g L) (fun _ _ L1 => L1 = L) := by
  unfold fX1_runOne_8
  refine pc_ck (fun _ _ => pc_ltn (fun _ _ => pc_cb pl_be (fun _ _ L1 e => ?_)))
  subst e
  refine pc_cb pl_ou (fun _ _ L1 e => ?_)
  subst e
  exact pc_ck (fun _ _ => pc_st (fun _ _ => pc_ck (fun _ _ => pc_ck (fun _ _ => pc_ck (fun _ _ => pc_st (fun _ _ => pc_some rfl))))))
theorem pl_late {p1 : Int32} : Pc (fX1_late_8 fu p1 g L) (fun _ _ L1 => L1 = L) := by
  unfold fX1_late_8
  exact pc_ck (fun _ _ => pc_ck (fun _ _ => pc_ltn (fun _ _ => pc_some rfl)))
end PLL
/-! ===== who is unsure ===== -/
/-- of the first i lessons, those that may run over or not: eight at most -/
def us (d : gT) : Nat → List Nat
  | 0 => []
  | i + 1 => if (1 ≤ (d 7 i).toInt ∧ (d 7 i).toInt ≤ 9) ∧ (us d i).length < 8 then us d i ++ [i] else us d i
theorem us_t {d : gT} {i : Nat} (h : (1 ≤ (d 7 i).toInt ∧ (d 7 i).toInt ≤ 9) ∧ (us d i).length < 8) : us d (i + 1) = us d i ++ [i] := if_pos h
theorem us_f {d : gT} {i : Nat} (h : ¬ ((1 ≤ (d 7 i).toInt ∧ (d 7 i).toInt ≤ 9) ∧ (us d i).length < 8)) : us d (i + 1) = us d i := if_neg h
theorem us_len {d : gT} : ∀ i, (us d i).length ≤ 8 := by
  intro i
  induction i with
  | zero => show 0 ≤ 8; omega
  | succ i ih =>
    by_cases c : (1 ≤ (d 7 i).toInt ∧ (d 7 i).toInt ≤ 9) ∧ (us d i).length < 8
    · rw [us_t c, List.length_append]; show _ + 1 ≤ 8; omega
    · rw [us_f c]; exact ih
theorem us_lt {d : gT} : ∀ i, ∀ x ∈ us d i, x < i ∧ 1 ≤ (d 7 x).toInt ∧ (d 7 x).toInt ≤ 9 := by
  intro i
  induction i with
  | zero => intro x hx; exact absurd hx List.not_mem_nil
  | succ i ih =>
    intro x hx
    by_cases c : (1 ≤ (d 7 i).toInt ∧ (d 7 i).toInt ≤ 9) ∧ (us d i).length < 8
    · rw [us_t c] at hx
      rcases List.mem_append.mp hx with hx | hx
      · have := ih x hx; omega
      · rw [List.mem_singleton.mp hx]; exact ⟨by omega, c.1⟩
    · rw [us_f c] at hx
      have := ih x hx; omega
theorem us_pre {d : gT} {i : Nat} : ∀ j, i ≤ j → ∃ r, us d j = us d i ++ r ∧ ∀ x ∈ r, i ≤ x := by
  intro j
  induction j with
  | zero => intro h; rw [show i = 0 by omega]; exact ⟨[], by rw [List.append_nil], fun x hx => absurd hx List.not_mem_nil⟩
  | succ j ih =>
    intro h
    by_cases e : i = j + 1
    · rw [e]; exact ⟨[], by rw [List.append_nil], fun x hx => absurd hx List.not_mem_nil⟩
    · obtain ⟨r, h1, h2⟩ := ih (by omega)
      by_cases c : (1 ≤ (d 7 j).toInt ∧ (d 7 j).toInt ≤ 9) ∧ (us d j).length < 8
      · refine ⟨r ++ [j], by rw [us_t c, h1, List.append_assoc], fun x hx => ?_⟩
        rcases List.mem_append.mp hx with hx | hx
        · exact h2 x hx
        · rw [List.mem_singleton.mp hx]; omega
      · exact ⟨r, by rw [us_f c, h1], h2⟩
/-- the k-th of them -/
def un (d : gT) (n k : Nat) : Nat := (us d n).getD k 0
theorem un_e {d : gT} {n k x : Nat} (h : (us d n)[k]? = some x) : un d n k = x := by
  unfold un
  rw [List.getD_eq_getElem?_getD, h]; rfl
theorem un_m {d : gT} {n k : Nat} (h : k < (us d n).length) : un d n k ∈ us d n := by
  rw [un_e (List.getElem?_eq_getElem h)]; exact List.getElem_mem _
theorem un_pre {d : gT} {i n k : Nat} (hi : i ≤ n) (h : k < (us d i).length) : un d i k = un d n k := by
  obtain ⟨r, h1, -⟩ := us_pre (d := d) n hi
  refine (un_e ?_).symm
  rw [h1, List.getElem?_append, if_pos h, un_e (List.getElem?_eq_getElem h)]
  exact List.getElem?_eq_getElem h
theorem un_behind {d : gT} {i n k : Nat} (hi : i ≤ n) (h1 : (us d i).length ≤ k) (h2 : k < (us d n).length) : i ≤ un d n k := by
  obtain ⟨r, e, hr⟩ := us_pre (d := d) n hi
  rw [e, List.length_append] at h2
  have : (us d n)[k]? = some (r[k - (us d i).length]'(by omega)) := by
    rw [e, List.getElem?_append, if_neg (by omega)]
    exact List.getElem?_eq_getElem (by omega)
  rw [un_e this]
  exact hr _ (List.getElem_mem _)
/-- who runs over, if of those that are unsure just x do -/
def RS (d : gT) (u : Nat → Nat) (m x i : Nat) : Prop := ¬ d 7 i = 0 ∧ ∀ k, k < m → u k = i → x.testBit k = true
def LT (cs : Nat → List Int) (d : gT) (l : Nat) (R : Nat → Prop) (t : Int32) : Prop := ∃ v, TD cs (l + 1) d R l v t
theorem LT.u {cs : Nat → List Int} {d : gT} {l : Nat} {R : Nat → Prop} (hW : WF (l + 1) d) : ∀ t t', LT cs d l R t → LT cs d l R t' → t = t' := fun t t' h h' => by
  obtain ⟨v, h⟩ := h
  obtain ⟨v', h'⟩ := h'
  exact (TD.u hW (Nat.lt_succ_self l) h h').2
theorem LT.c {cs : Nat → List Int} {d : gT} {l : Nat} {R R' : Nat → Prop} (e : ∀ i, i < l + 1 → (R i ↔ R' i)) : LT cs d l R = LT cs d l R' := by
  funext t
  refine propext ⟨fun h => ?_, fun h => ?_⟩
  · obtain ⟨v, m, bg, en, ru, by_, h1, h2⟩ := h
    exact ⟨v, m, bg, en, ru, by_, fun i hi => (h1 i hi).trans ⟨fun q w => q ((e i hi).mpr w), fun q w => q ((e i hi).mp w)⟩, h2⟩
  · obtain ⟨v, m, bg, en, ru, by_, h1, h2⟩ := h
    exact ⟨v, m, bg, en, ru, by_, fun i hi => (h1 i hi).trans ⟨fun q w => q ((e i hi).mp w), fun q w => q ((e i hi).mpr w)⟩, h2⟩
/-- how late it is then -/
noncomputable def lf (P : Int32 → Prop) : Int32 := @dite Int32 (∃ t, P t) (Classical.propDecidable _) (fun h => Classical.choose h) (fun _ => 0)
theorem lf_e {P : Int32 → Prop} {t : Int32} (u : ∀ t t', P t → P t' → t = t') (h : P t) : lf P = t := by
  have e : ∃ t, P t := ⟨t, h⟩
  have q : lf P = Classical.choose e := @dif_pos (∃ t, P t) (Classical.propDecidable _) e Int32 _ _
  rw [q]
  exact u _ _ (Classical.choose_spec e) h
noncomputable def fQ (cs : Nat → List Int) (d : gT) (l : Nat) (u : Nat → Nat) (F : Int32 → Int) (m x : Nat) : Int := F (lf (LT cs d l (RS d u m x)))
/-- the sum over all of them -/
noncomputable def SQm (cs : Nat → List Int) (d : gT) (l : Nat) (u : Nat → Nat) (F : Int32 → Int) (m : Nat) : Int := sF (fun x => wt (fun k => (d 7 (u k)).toInt) m x * fQ cs d l u F m x) (2 ^ m)
theorem sq_s {cs : Nat → List Int} {d : gT} {l m : Nat} {u : Nat → Nat} {F : Int32 → Int} (h : l < u m) : SQm cs d l u F (m + 1) = 10 * SQm cs d l u F m := by
  unfold SQm
  refine sum_s (fun x hx => ?_) (fun x hx => ?_)
  · unfold fQ
    rw [LT.c (R' := RS d u m x) (fun i hi => ?_)]
    constructor
    · intro ⟨a, b⟩; exact ⟨a, fun k hk e => b k (by omega) e⟩
    · intro ⟨a, b⟩
      refine ⟨a, fun k hk e => ?_⟩
      by_cases q : k = m
      · rw [q] at e; omega
      · exact b k (by omega) e
  · unfold fQ
    rw [LT.c (R' := RS d u m x) (fun i hi => ?_)]
    constructor
    · intro ⟨a, b⟩
      refine ⟨a, fun k hk e => ?_⟩
      have := b k (by omega) e
      rw [Nat.testBit_two_pow_add_gt hk] at this
      exact this
    · intro ⟨a, b⟩
      refine ⟨a, fun k hk e => ?_⟩
      by_cases q : k = m
      · rw [q] at e; omega
      · rw [Nat.testBit_two_pow_add_gt (by omega)]
        exact b k (by omega) e
theorem sq_all {cs : Nat → List Int} {d : gT} {l a : Nat} {u : Nat → Nat} {F : Int32 → Int} : ∀ b : Nat, (∀ k, a ≤ k → k < a + b → l < u k) → SQm cs d l u F (a + b) = 10 ^ b * SQm cs d l u F a := by
  intro b
  induction b with
  | zero => intro _; show SQm cs d l u F a = 10 ^ 0 * _; rw [Int.pow_zero, Int.one_mul]
  | succ b ih =>
    intro h
    show SQm cs d l u F (a + b + 1) = _
    rw [sq_s (h (a + b) (by omega) (by omega)), ih (fun k x y => h k x (by omega)), Int.pow_succ, Int.mul_comm (10 ^ b) 10, Int.mul_assoc]
theorem RS.c {d : gT} {u u' : Nat → Nat} {m x i : Nat} (h : ∀ k, k < m → u k = u' k) : RS d u m x i ↔ RS d u' m x i := by
  constructor
  · intro ⟨a, b⟩; exact ⟨a, fun k hk e => b k hk (by rw [h k hk]; exact e)⟩
  · intro ⟨a, b⟩; exact ⟨a, fun k hk e => b k hk (by rw [← h k hk]; exact e)⟩
theorem wt_p {p p' : Nat → Int} {x : Nat} : ∀ m : Nat, (∀ k, k < m → p k = p' k) → wt p m x = wt p' m x := by
  intro m
  induction m with
  | zero => intro _; rfl
  | succ m ih =>
    intro h
    show wt p m x * _ = wt p' m x * _
    rw [ih (fun k hk => h k (by omega)), h m (by omega)]
theorem sq_u {cs : Nat → List Int} {d : gT} {l m : Nat} {u u' : Nat → Nat} {F : Int32 → Int} (h : ∀ k, k < m → u k = u' k) : SQm cs d l u F m = SQm cs d l u' F m := by
  unfold SQm
  refine sF_c (fun x _ => ?_)
  unfold fQ
  rw [LT.c (fun i _ => RS.c h), wt_p m (fun k hk => by rw [h k hk])]
/-! bits of a subset -/
theorem tb_x : ∀ x : Nat, x < 257 → ∀ k : Nat, k < 8 → tbi (Int32.ofInt (x : Int)) k = x.testBit k := by decide +kernel
theorem sh_m : ∀ m : Nat, m ≤ 8 → ((1 : Int32) <<< (Int32.ofInt (m : Int) &&& 31)).toInt = ((2 ^ m : Nat) : Int) ∧ 2 ^ m ≤ 256 := by decide
theorem p10 : ∀ m : Nat, m ≤ 8 → 1 ≤ 10 ^ m ∧ 10 ^ m ≤ 100000000 := by decide
theorem p10i (m : Nat) : (10 : Int) ^ m = ((10 ^ m : Nat) : Int) := (Int.natCast_pow 10 m).symm
