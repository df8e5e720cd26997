/-! ===== chance and mean: the reference ===== -/
def UM (d : gT) (i : Nat) (g : gT) : Prop := (g 0 70).toInt = ((us d i).length : Int) ∧ (∀ (k x : Nat), (us d i)[k]? = some x → g 41 k = Int32.ofInt (x : Int)) ∧ (∀ o, o < 12 → (tbi (g 0 71) o = true ↔ (o < i ∧ d 7 o = 0)))
/-- but for what trials of chances write -/
def EU (d g : gT) : Prop := (∀ k, k ≠ 0 → k < 29 → g k = d k) ∧ ∀ j, j ≠ 60 → j ≠ 70 → j ≠ 71 → g 0 j = d 0 j
theorem asks_m {n fu : Nat} {g d : gT} {L : lT} (hn : (d 0 1).toInt = (n : Int)) (n12 : n ≤ 12) (hb : ∀ i, i < n → 0 ≤ (d 7 i).toInt ∧ (d 7 i).toInt ≤ 10) (e : EU d g) : Pc (fX12_asks fu g L) (fun _ g1 _ => EU d g1 ∧ g1 0 60 = g 0 60 ∧ UM d n g1) := by
  unfold fX12_asks
  refine pc_st (fun g1 e1 => pc_st (fun g2 e2 => ?_))
  have ek2 : ∀ k, k ≠ 0 → k < 29 → g2 k = d k := fun k a b => by rw [e2, e1, ← e.1 k a b]; exact funext fun _ => by rw [upd2_nk a, upd2_nk a]
  have ej2 : ∀ j, j ≠ 60 → j ≠ 70 → j ≠ 71 → g2 0 j = d 0 j := fun j a b c => by rw [e2, upd2_nj c, e1, upd2_nj b]; exact e.2 j a b c
  have z60 : g2 0 60 = g 0 60 := by rw [e2, upd2_nj (by decide), e1, upd2_nj (by decide)]
  unfold fX12_asks_l12
  refine pc_loop (fun v => ∃ i : Nat, v.1.toInt = (i : Int) ∧ i ≤ n ∧ EU d v.2.1 ∧ v.2.1 0 60 = g 0 60 ∧ UM d i v.2.1) (fun k12 hk v hv => ?_) ⟨0, rfl, by omega, ⟨ek2, ej2⟩, z60, ?_, (fun k x hx => nomatch hx), fun o ho => ?_⟩
  rotate_left
  · show (g2 0 70).toInt = ((0 : Nat) : Int)
    rw [e2, upd2_nj (by decide), e1, upd2_at]; rfl
  · show tbi (g2 0 71) o = true ↔ _
    rw [e2, upd2_at, tb_0]
    exact ⟨fun q => absurd q (by decide), fun q => absurd q.1 (Nat.not_lt_zero _)⟩
  obtain ⟨v1, g', L'⟩ := v
  obtain ⟨i, hi, ni, e', z60, hu⟩ := hv
  replace hi : v1.toInt = (i : Int) := hi
  replace e' : EU d g' := e'
  replace z60 : g' 0 60 = g 0 60 := z60
  replace hu : UM d i g' := hu
  obtain ⟨u1, u2, u3⟩ := hu
  show Pc (fX12_asks_s12 fu k12 v1 g' L') _
  unfold fX12_asks_s12
  have e01 : (g' 0 1).toInt = (n : Int) := by rw [e'.2 1 (by decide) (by decide) (by decide)]; exact hn
  refine pc_ite (fun c => pc_some ⟨e', z60, ?_⟩) (fun c => ?_)
  · have c := icc_le e01 hi c
    rw [show n = i by omega]
    exact ⟨u1, u2, u3⟩
  have c := icc_nle e01 hi c
  have i' : i < n := by omega
  have ew : (v1 + 1).toInt = ((i + 1 : Nat) : Int) := by rw [ic_addc hi (n := 1) rfl (by omega) (by omega)]; omega
  have ei : v1.toNatClampNeg = i := by rw [nc, hi]; omega
  have vi : v1 = Int32.ofInt (i : Int) := by rw [← hi]; exact io_i.symm
  have len := us_len (d := d) i
  have b := hb i i'
  have i1 : (1 : Int32).toInt = 1 := rfl
  have i9 : (9 : Int32).toInt = 9 := rfl
  have p41 : ∀ gz : gT, EU d gz → gz 0 60 = g 0 60 → (gz 0 70).toInt = ((us d i).length : Int) → gz 41 = g' 41 → (∀ o, o < 12 → (tbi (gz 0 71) o = true ↔ (o < i + 1 ∧ d 7 o = 0))) → Pc (fX12_asks_p41 fu k12 v1 gz L') (fun _ g1 _ => EU d g1 ∧ g1 0 60 = g 0 60 ∧ UM d n g1) := by
    intro gz ez z60 z70 z41 z71
    unfold fX12_asks_p41 fX12_asks_p88
    rw [ei, ez.1 7 (by decide) (by omega)]
    refine pc_ck (fun _ _ => ?_)
    by_cases w : (1 : Int32).toInt ≤ (d 7 i).toInt ∧ (d 7 i).toInt ≤ (9 : Int32).toInt
    rotate_left
    · rw [within0 w, cbs, if_pos rfl]
      refine hk _ ⟨i + 1, ew, by omega, ez, z60, ?_⟩
      show UM d (i + 1) gz
      unfold UM
      rw [us_f (fun q => w ⟨by omega, by omega⟩)]
      exact ⟨z70, fun k x hx => by rw [z41]; exact u2 k x hx, z71⟩
    rw [within1 w.1 w.2, cbs, if_neg (by decide)]
    refine pc_ite (fun c8 => hk _ ⟨i + 1, ew, by omega, ez, z60, ?_⟩) (fun c8 => ?_)
    · show UM d (i + 1) gz
      have c8 := icc_eq (n := 8) z70 rfl c8
      unfold UM
      rw [us_f (fun q => by omega)]
      exact ⟨z70, fun k x hx => by rw [z41]; exact u2 k x hx, z71⟩
    · have c8 := icc_neq (n := 8) z70 rfl c8
      have eM : (gz 0 70).toNatClampNeg = (us d i).length := by rw [nc, z70]; omega
      rw [eM]
      refine pc_ck (fun _ _ => pc_st (fun g10 e10 => pc_st (fun g11 e11 => hk _ ⟨i + 1, ew, by omega, ⟨fun k a b => ?_, fun j a b c => ?_⟩, ?_, ?_⟩)))
      · show g11 k = d k
        rw [e11, ← ez.1 k a b, e10]; exact funext fun _ => by rw [upd2_nk a, upd2_nk (by omega)]
      · show g11 0 j = d 0 j
        rw [e11, upd2_nj b, e10, upd2_nk (by decide)]; exact ez.2 j a b c
      · show g11 0 60 = _
        rw [e11, upd2_nj (by decide), e10, upd2_nk (by decide)]; exact z60
      · show UM d (i + 1) g11
        have a10 : g10 0 70 = gz 0 70 := by rw [e10, upd2_nk (by decide)]
        unfold UM
        rw [us_t ⟨⟨by omega, by omega⟩, by omega⟩, List.length_append]
        refine ⟨?_, fun k x hx => ?_, fun o ho => ?_⟩
        · show _ = (((us d i).length + 1 : Nat) : Int)
          rw [e11, upd2_at, a10, ic_addc z70 (n := 1) rfl (by omega) (by omega)]; omega
        · rw [e11, upd2_nk (by decide), e10]
          rcases ap_n hx with ⟨q, hq⟩ | ⟨q, hq⟩
          · rw [upd2_nj (by omega), z41]; exact u2 k x hq
          · rw [q, upd2_at, hq]; exact vi
        · rw [e11, upd2_nj (by decide), e10, upd2_nk (by decide)]
          exact z71 o ho
  rw [ei, e'.1 7 (by decide) (by omega)]
  refine pc_ck (fun _ _ => pc_ite (fun c0 => pc_st (fun g13 e13 => p41 g13 ⟨fun k a b => ?_, fun j a b c => ?_⟩ ?_ ?_ ?_ (fun o ho => ?_))) (fun c0 => p41 g' e' z60 u1 rfl (fun o ho => ?_)))
  · rw [e13, ← e'.1 k a b]; exact funext fun _ => upd2_nk a
  · rw [e13, upd2_nj c]; exact e'.2 j a b c
  · rw [e13, upd2_nj (by decide)]; exact z60
  · rw [e13, upd2_nj (by decide)]; exact u1
  · rw [e13]; exact funext fun _ => upd2_nk (by decide)
  · rw [e13, upd2_at, tb_or, vi, tb_s i (by omega) o ho]
    by_cases q : i = o
    · rw [decide_eq_true q, Bool.or_true]
      exact ⟨fun _ => ⟨by omega, by rw [← q]; exact c0⟩, fun _ => rfl⟩
    · rw [decide_eq_false q, Bool.or_false]
      exact (u3 o ho).trans ⟨fun w => ⟨by omega, w.2⟩, fun w => ⟨by omega, w.2⟩⟩
  · exact (u3 o ho).trans ⟨fun w => ⟨by omega, w.2⟩, fun w => ⟨by
      by_cases q : o = i
      · rw [q] at w; exact absurd w.2 c0
      · omega, w.2⟩⟩
/-- what is counted -/
def FW2 (p : Int32) : Int32 → Int := fun t => if p = -1 then t.toInt else if t ≤ p then 0 else 1
theorem ff_w {p : Int32} : FF (FW2 p) := fun t a b => by
  unfold FW2
  split
  · exact ⟨a, b⟩
  · split <;> omega
theorem weighs_m {cs : Nat → List Int} {n l fu : Nat} {p1 p2 : Int32} {g d : gT} {L : lT} (hM : MD cs n d) (hN : NB n d) (hl : p1.toInt = (l : Int)) (ln : l < n) (e : EU d g) (hu : UM d n g) : Pc (fX12_weighs fu p1 p2 g L) (fun y g1 _ => y.toInt = SQm cs d l (un d n) (FW2 p2) (us d n).length ∧ g1 0 70 = g 0 70 ∧ g1 0 0 = g 0 0) := by
  have hW0 := hM.2.1
  have hW : WF (l + 1) d := fun i hi => hW0 i (by omega)
  have n12 := hM.1.2
  have len := us_len (d := d) n
  have sh := sh_m _ len
  have hF : FF (FW2 p2) := ff_w
  have pb : ∀ k, k < (us d n).length → 1 ≤ (d 7 (un d n k)).toInt ∧ (d 7 (un d n k)).toInt ≤ 9 := fun k hk => (us_lt n _ (un_m hk)).2
  have e70 : g 0 70 = Int32.ofInt (((us d n).length : Nat) : Int) := ic_eq.mpr (by rw [hu.1, Int32.toInt_ofInt_of_le (by omega) (by omega)])
  unfold fX12_weighs fX12_weighs_l5
  refine pc_loop (fun v => ∃ x : Nat, v.2.1.toInt = (x : Int) ∧ x ≤ 2 ^ (us d n).length ∧ EU d v.2.2.1 ∧ (v.2.2.1 0 70 = g 0 70 ∧ v.2.2.1 0 71 = g 0 71 ∧ v.2.2.1 41 = g 41) ∧ v.1.toInt = sF (fun x => wt (fun k => (d 7 (un d n k)).toInt) (us d n).length x * fQ cs d l (un d n) (FW2 p2) (us d n).length x) x) (fun k5 hk v hv => ?_) ⟨0, rfl, Nat.zero_le _, e, ⟨rfl, rfl, rfl⟩, rfl⟩
  obtain ⟨v3, v5, g', L'⟩ := v
  obtain ⟨x, hx, xm, e', ⟨z70, z71, z41⟩, hs⟩ := hv
  replace hx : v5.toInt = (x : Int) := hx
  replace e' : EU d g' := e'
  replace z70 : g' 0 70 = g 0 70 := z70
  replace z71 : g' 0 71 = g 0 71 := z71
  replace z41 : g' 41 = g 41 := z41
  replace hs : v3.toInt = sF (fun x => wt (fun k => (d 7 (un d n k)).toInt) (us d n).length x * fQ cs d l (un d n) (FW2 p2) (us d n).length x) x := hs
  show Pc (fX12_weighs_s5 fu p1 p2 k5 v3 v5 g' L') _
  unfold fX12_weighs_s5
  rw [z70.trans e70]
  refine pc_ite (fun c => pc_st (fun g2 e2 => pc_some ⟨?_, ?_, ?_⟩)) (fun c => pc_st (fun g3 e3 => ?_))
  · have c := icc_le sh.1 hx c
    rw [hs, show x = 2 ^ (us d n).length by omega]; rfl
  · rw [e2, upd2_nj (by decide)]; exact z70
  · rw [e2, upd2_nj (by decide), e'.2 0 (by decide) (by decide) (by decide), e.2 0 (by decide) (by decide) (by decide)]
  have c := icc_nle sh.1 hx c
  have x256 : x < 256 := by omega
  have vx : v5 = Int32.ofInt (x : Int) := by rw [← hx]; exact io_i.symm
  have ew : (v5 + 1).toInt = ((x + 1 : Nat) : Int) := by rw [ic_addc hx (n := 1) rfl (by omega) (by omega)]; omega
  have e3' : EU d g3 := ⟨fun k a b => by rw [e3, ← e'.1 k a b]; exact funext fun _ => upd2_nk a, fun j a b c => by rw [e3, upd2_nj a]; exact e'.2 j a b c⟩
  unfold fX12_weighs_l30
  refine pc_loop (fun v => ∃ k : Nat, v.2.1.toInt = (k : Int) ∧ k ≤ (us d n).length ∧ EU d v.2.2.1 ∧ (v.2.2.1 0 70 = g 0 70 ∧ v.2.2.1 0 71 = g 0 71 ∧ v.2.2.1 41 = g 41) ∧ v.1.toInt = wt (fun k => (d 7 (un d n k)).toInt) k x ∧ ∀ o, o < n → (tbi (v.2.2.1 0 60) o = true ↔ (d 7 o = 0 ∨ ∃ k', k' < k ∧ un d n k' = o ∧ x.testBit k' = false))) (fun k30 hk2 v hv => ?_) ⟨0, rfl, by omega, e3', ⟨?_, ?_, ?_⟩, rfl, fun o ho => ?_⟩
  rotate_left
  · show g3 0 70 = _
    rw [e3, upd2_nj (by decide)]; exact z70
  · show g3 0 71 = _
    rw [e3, upd2_nj (by decide)]; exact z71
  · show g3 41 = _
    rw [e3, ← z41]; exact funext fun _ => upd2_nk (by decide)
  · show tbi (g3 0 60) o = true ↔ _
    rw [e3, upd2_at, z71]
    refine (hu.2.2 o (by omega)).trans ⟨fun w => Or.inl w.2, fun w => ?_⟩
    rcases w with w | ⟨k', hk', -⟩
    · exact ⟨ho, w⟩
    · exact absurd hk' (Nat.not_lt_zero _)
  obtain ⟨v6, v8, g4, L4⟩ := v
  obtain ⟨k, hkk, kl, e4, ⟨y70, y71, y41⟩, hw, hb⟩ := hv
  replace hkk : v8.toInt = (k : Int) := hkk
  replace e4 : EU d g4 := e4
  replace y70 : g4 0 70 = g 0 70 := y70
  replace y71 : g4 0 71 = g 0 71 := y71
  replace y41 : g4 41 = g 41 := y41
  replace hw : v6.toInt = wt (fun k => (d 7 (un d n k)).toInt) k x := hw
  replace hb : ∀ o, o < n → (tbi (g4 0 60) o = true ↔ (d 7 o = 0 ∨ ∃ k', k' < k ∧ un d n k' = o ∧ x.testBit k' = false)) := hb
  show Pc (fX12_weighs_s30 fu k5 p1 p2 v3 v5 k30 v6 v8 g4 L4) _
  unfold fX12_weighs_s30
  have y70i : (g4 0 70).toInt = (((us d n).length : Nat) : Int) := by rw [y70]; exact hu.1
  refine pc_ite (fun c1 => ?_) (fun c1 => ?_)
  · have c1 := icc_le y70i hkk c1
    have ek : k = (us d n).length := by omega
    rw [ek] at hw hb
    have hM4 : MD cs n g4 := by
      unfold MD WF
      rw [e4.1 5 (by decide) (by omega), e4.1 6 (by decide) (by omega), e4.1 8 (by decide) (by omega), e4.1 9 (by decide) (by omega), e4.1 10 (by decide) (by omega), e4.1 11 (by decide) (by omega), e4.2 1 (by decide) (by decide) (by decide), e4.2 52 (by decide) (by decide) (by decide)]
      exact hM
    refine pc_cb (wk_m hM4) (fun _ g6 L7 q => ?_)
    obtain ⟨w1, w2⟩ := q
    have ldc : ∀ bg en ru by_, ∀ i, i < n → LD cs g4 bg en ru by_ i → LD cs (rn0 d (g4 0 60)) bg en ru by_ i := fun bg en ru by_ i hi hL => ld_f (fun j hj => by rw [rn0_j (by omega), e4.2 j (by omega) (by omega) (by omega)]) (by rw [rn0_60]) (by rw [rn0_k (by decide), e4.1 1 (by decide) (by omega)]) (by rw [rn0_k (by decide), e4.1 2 (by decide) (by omega)]) (by rw [rn0_k (by decide), e4.1 3 (by decide) (by omega)]) (by rw [rn0_k (by decide), e4.1 4 (by decide) (by omega)]) (by rw [rn0_k (by decide), e4.1 5 (by decide) (by omega)]) (by rw [rn0_k (by decide), e4.1 6 (by decide) (by omega)]) (by rw [rn0_k (by decide), e4.1 8 (by decide) (by omega)]) (by rw [rn0_k (by decide), e4.1 9 (by decide) (by omega)]) (by rw [rn0_k (by decide), e4.1 12 (by decide) (by omega)]) hL
    have mk : ∀ i, i < l + 1 → (stb (g4 0 60) i = 1 ↔ ¬ RS d (un d n) (us d n).length x i) := fun i hi => by
      rw [stb_1i (by omega), hb i (by omega)]
      unfold RS
      constructor
      · intro w ⟨q1, q2⟩
        rcases w with w | ⟨k', a, b, c⟩
        · exact q1 w
        · have := q2 k' a b
          rw [c] at this; exact absurd this (by decide)
      · intro w
        refine Classical.byContradiction (fun q => w ⟨fun z => q (Or.inl z), fun k' a b => ?_⟩)
        cases hb2 : x.testBit k' with
        | true => rfl
        | false => exact absurd (Or.inr ⟨k', a, b, hb2⟩) q
    have lt : LT cs d l (RS d (un d n) (us d n).length x) (g6 32 l - d 2 l) := ⟨_, _, _, _, _, _, mk, fun i hi => ldc _ _ _ _ i (by omega) (w1 i (by omega)), rfl, rfl⟩
    have e6 : EU d g6 := ⟨fun k a b => (w2 k (by omega)).trans (e4.1 k a b), fun j a b c => by rw [w2 0 (by omega)]; exact e4.2 j a b c⟩
    have t6 : g6 0 70 = g 0 70 ∧ g6 0 71 = g 0 71 ∧ g6 41 = g 41 := ⟨by rw [w2 0 (by omega)]; exact y70, by rw [w2 0 (by omega)]; exact y71, by rw [w2 41 (by omega)]; exact y41⟩
    have sb := sq_b (cs := cs) (u := un d n) (m := (us d n).length) (X := x) hN hW ln hF len pb (by omega)
    have sx := sb.2 x
    have fin : ∀ (t : Int32) (y : Int64) (La : lT), t = g6 32 l - d 2 l → y.toInt = wt (fun k => (d 7 (un d n k)).toInt) (us d n).length x * FW2 p2 t → Pc (fX12_weighs_p169 fu k5 p1 p2 v5 y v3 g6 La) (fun y g1 _ => y.toInt = SQm cs d l (un d n) (FW2 p2) (us d n).length ∧ g1 0 70 = g 0 70 ∧ g1 0 0 = g 0 0) := by
      intro t y La ht hy
      have fq : fQ cs d l (un d n) (FW2 p2) (us d n).length x = FW2 p2 t := by
        unfold fQ
        rw [ht, lf_e (LT.u hW) lt]
      rw [fq] at sx
      unfold fX12_weighs_p169
      refine pc_ltl (fun y9 e9 => hk _ ⟨x + 1, ew, by omega, e6, t6, ?_⟩)
      show y9.toInt = sF _ x + _ * fQ cs d l (un d n) (FW2 p2) (us d n).length x
      rw [fq, e9, lg_addc hs hy (by omega) (by omega)]
    refine pc_ite (fun c2 => pc_cb (late_m (d := g6) (fun _ _ => rfl) hl) (fun x16 g17 L18 q => ?_)) (fun c2 => pc_cb (late_m (d := g6) (fun _ _ => rfl) hl) (fun x11 g12 L13 q => ?_))
    · obtain ⟨rfl, q⟩ := q
      rw [e6.1 2 (by decide) (by omega)] at q
      have b := td_b hN ln lt
      rw [← q] at b
      have fv : FW2 p2 x16 = x16.toInt := by unfold FW2; rw [if_pos c2]
      have fq : fQ cs d l (un d n) (FW2 p2) (us d n).length x = x16.toInt := by
        unfold fQ
        rw [lf_e (LT.u hW) lt, ← q, fv]
      rw [fq] at sx
      refine fin x16 _ _ q ?_
      rw [fv, lg_mulc hw (Int32.toInt_toInt64 x16) (by omega) (by omega)]
    · obtain ⟨rfl, q⟩ := q
      rw [e6.1 2 (by decide) (by omega)] at q
      refine pc_ite (fun c3 => fin x11 _ _ q ?_) (fun c3 => fin x11 _ _ q ?_)
      · unfold FW2
        rw [if_neg c2, if_pos c3, Int.mul_zero]; rfl
      · unfold FW2
        rw [if_neg c2, if_neg c3, Int.mul_one]; exact hw
  have c1 := icc_nle y70i hkk c1
  have k' : k < (us d n).length := by omega
  have ewk : (v8 + 1).toInt = ((k + 1 : Nat) : Int) := by rw [ic_addc hkk (n := 1) rfl (by omega) (by omega)]; omega
  have ekn : v8.toNatClampNeg = k := by rw [nc, hkk]; omega
  have vk : v8 = Int32.ofInt (k : Int) := by rw [← hkk]; exact io_i.symm
  have gk : g4 41 k = Int32.ofInt ((un d n k : Nat) : Int) := by
    rw [y41]
    exact hu.2.1 k _ (by rw [un_e (List.getElem?_eq_getElem k')]; exact List.getElem?_eq_getElem k')
  have ul := us_lt n _ (un_m (d := d) (n := n) (k := k) k')
  have gi : (Int32.ofInt ((un d n k : Nat) : Int)).toInt = ((un d n k : Nat) : Int) := Int32.toInt_ofInt_of_le (by omega) (by omega)
  have gn : (Int32.ofInt ((un d n k : Nat) : Int)).toNatClampNeg = un d n k := by rw [nc, gi]; omega
  have bit : (v5 >>> (v8 &&& 31)) &&& 1 = 1 ↔ x.testBit k = true := by
    rw [vk, vx]
    show stb (Int32.ofInt (x : Int)) k = 1 ↔ _
    rw [stb_1i (by omega), tb_x x (by omega) k (by omega)]
  have wb := wt_b (p := fun k => (d 7 (un d n k)).toInt) (x := x) (k + 1) (by omega) (fun k hk => pb k (by omega))
  have pl := p10 (k + 1) (by omega)
  rw [p10i] at wb
  have pk := pb k k'
  have p96 : ∀ (v9 : Int32) (t : Int64) (La : lT), (v9 = 0 ↔ x.testBit k = false) → t.toInt = (if x.testBit k = true then (d 7 (un d n k)).toInt else 10 - (d 7 (un d n k)).toInt) → Pc (fX12_weighs_p96 fu k5 k30 p1 p2 v3 v5 v8 v9 t v6 g4 La) (fun y g1 _ => y.toInt = SQm cs d l (un d n) (FW2 p2) (us d n).length ∧ g1 0 70 = g 0 70 ∧ g1 0 0 = g 0 0) := by
    intro v9 t La h9 ht
    have wb' : 0 ≤ wt (fun k => (d 7 (un d n k)).toInt) k x * (if x.testBit k = true then (d 7 (un d n k)).toInt else 10 - (d 7 (un d n k)).toInt) ∧ wt (fun k => (d 7 (un d n k)).toInt) k x * (if x.testBit k = true then (d 7 (un d n k)).toInt else 10 - (d 7 (un d n k)).toInt) ≤ ((10 ^ (k + 1) : Nat) : Int) := wb
    unfold fX12_weighs_p96 fX12_weighs_p122
    rw [ekn, gk]
    refine pc_ltl (fun y20 e20 => ?_)
    have w20 : y20.toInt = wt (fun k => (d 7 (un d n k)).toInt) (k + 1) x := by
      show y20.toInt = wt (fun k => (d 7 (un d n k)).toInt) k x * (if x.testBit k = true then (d 7 (un d n k)).toInt else 10 - (d 7 (un d n k)).toInt)
      rw [e20, lg_mulc hw ht (by omega) (by omega)]
    have st : ∀ (t0 : Int32) (g21 : gT) (Lb : lT), g21 = upd2 g4 0 60 (g4 0 60 ||| t0) → (∀ o, o < n → (tbi (g4 0 60 ||| t0) o = true ↔ (d 7 o = 0 ∨ ∃ k', k' < k + 1 ∧ un d n k' = o ∧ x.testBit k' = false))) → Pc (k30 (y20, (v8 + 1), g21, Lb)) (fun y g1 _ => y.toInt = SQm cs d l (un d n) (FW2 p2) (us d n).length ∧ g1 0 70 = g 0 70 ∧ g1 0 0 = g 0 0) := by
      intro t0 g21 Lb e21 hb'
      refine hk2 _ ⟨k + 1, ewk, by omega, ⟨fun k a b => ?_, fun j a b c => ?_⟩, ⟨?_, ?_, ?_⟩, w20, fun o ho => ?_⟩
      · show g21 k = d k
        rw [e21, ← e4.1 k a b]; exact funext fun _ => upd2_nk a
      · show g21 0 j = d 0 j
        rw [e21, upd2_nj a]; exact e4.2 j a b c
      · show g21 0 70 = _
        rw [e21, upd2_nj (by decide)]; exact y70
      · show g21 0 71 = _
        rw [e21, upd2_nj (by decide)]; exact y71
      · show g21 41 = _
        rw [e21, ← y41]; exact funext fun _ => upd2_nk (by decide)
      · show tbi (g21 0 60) o = true ↔ _
        rw [e21, upd2_at]; exact hb' o ho
    refine pc_ite (fun c2 => pc_ck (fun _ _ => pc_st (fun g21 e21 => st _ g21 _ e21 (fun o ho => ?_)))) (fun c2 => pc_st (fun g21 e21 => st _ g21 _ e21 (fun o ho => ?_)))
    · have c2 := h9.mp c2
      rw [tb_or, tb_s _ (by omega) o (by omega)]
      by_cases q : un d n k = o
      · rw [decide_eq_true q, Bool.or_true]
        exact ⟨fun _ => Or.inr ⟨k, by omega, q, c2⟩, fun _ => rfl⟩
      · rw [decide_eq_false q, Bool.or_false]
        refine (hb o ho).trans ⟨fun w => ?_, fun w => ?_⟩
        · rcases w with w | ⟨k', a, b⟩
          · exact Or.inl w
          · exact Or.inr ⟨k', by omega, b⟩
        · rcases w with w | ⟨k', a, b, c⟩
          · exact Or.inl w
          · refine Or.inr ⟨k', ?_, b, c⟩
            by_cases q' : k' = k
            · rw [q'] at b; exact absurd b q
            · omega
    · have c2 : ¬ x.testBit k = false := fun q => c2 (h9.mpr q)
      rw [Int32.or_zero]
      refine (hb o ho).trans ⟨fun w => ?_, fun w => ?_⟩
      · rcases w with w | ⟨k', a, b⟩
        · exact Or.inl w
        · exact Or.inr ⟨k', by omega, b⟩
      · rcases w with w | ⟨k', a, b, c⟩
        · exact Or.inl w
        · refine Or.inr ⟨k', ?_, b, c⟩
          by_cases q' : k' = k
          · rw [q'] at c; exact absurd c c2
          · omega
  unfold fX12_weighs_p55
  rw [ekn, gk, gn, e4.1 7 (by decide) (by omega)]
  refine pc_ite (fun c2 => ?_) (fun c2 => ?_)
  · have tb := bit.mp c2
    rw [if_neg (by decide)]
    refine pc_ck (fun _ _ => pc_ck (fun _ _ => p96 1 _ _ ⟨fun q => absurd q (by decide), fun q => by rw [tb] at q; exact absurd q (by decide)⟩ ?_))
    rw [if_pos tb, Int32.toInt_toInt64]
  · have tb : x.testBit k = false := by
      cases hb2 : x.testBit k with
      | true => exact absurd (bit.mpr hb2) c2
      | false => rfl
    rw [if_pos rfl]
    refine pc_ck (fun _ _ => pc_ck (fun _ _ => p96 0 _ _ ⟨fun _ => tb, fun _ => rfl⟩ ?_))
    rw [tb, if_neg (by decide), Int32.toInt_toInt64, ic_subc (m := 10) rfl rfl (by omega) (by omega)]
theorem tens_m {m fu : Nat} {g : gT} {L : lT} (h : (g 0 70).toInt = (m : Int)) (m8 : m ≤ 8) : Pc (fX12_tens fu g L) (fun y g1 _ => g1 = g ∧ y.toInt = ((10 ^ m : Nat) : Int)) := by
  unfold fX12_tens fX12_tens_l4
  refine pc_loop (fun v => ∃ k : Nat, v.2.1.toInt = (k : Int) ∧ k ≤ m ∧ v.1.toInt = ((10 ^ k : Nat) : Int) ∧ v.2.2.1 = g) (fun k4 hk v hv => ?_) ⟨0, rfl, by omega, rfl, rfl⟩
  obtain ⟨v1, v3, g', L'⟩ := v
  obtain ⟨k, hkk, km, e1, eg⟩ := hv
  replace hkk : v3.toInt = (k : Int) := hkk
  replace e1 : v1.toInt = ((10 ^ k : Nat) : Int) := e1
  replace eg : g' = g := eg
  subst eg
  show Pc (fX12_tens_s4 fu k4 v1 v3 g' L') _
  unfold fX12_tens_s4
  refine pc_ite (fun c => pc_some ⟨rfl, ?_⟩) (fun c => pc_ltl (fun y2 e2 => hk _ ⟨k + 1, ?_, ?_, ?_, rfl⟩))
  · have c := icc_le h hkk c
    rw [e1, show k = m by omega]
  · have c := icc_nle h hkk c
    show (v3 + 1).toInt = _
    rw [ic_addc hkk (n := 1) rfl (by omega) (by omega)]; omega
  · have c := icc_nle h hkk c
    omega
  · have c := icc_nle h hkk c
    have pl := p10 k (by omega)
    show y2.toInt = ((10 ^ (k + 1) : Nat) : Int)
    rw [e2, lg_mulc e1 (n := 10) rfl (by omega) (by omega), Nat.pow_succ]
    omega
/-- both reduced portions are one -/
theorem portion_e {cs : Nat → List Int} {n l : Nat} {d : gT} {F : Int32 → Int} {L1 : lT} {up : Nat} (hr : RXm cs d l F L1) (ln : l < n) (hu : (up : Int) = SQm cs d l (un d n) F (us d n).length) : (L1 11 5).toInt = ((up / Nat.gcd (10 ^ (us d n).length) up : Nat) : Int) ∧ (L1 11 6).toInt = ((10 ^ (us d n).length / Nat.gcd (10 ^ (us d n).length) up : Nat) : Int) := by
  obtain ⟨u0, h0, h5, h6⟩ := hr
  obtain ⟨r, hr, -⟩ := us_pre (d := d) (i := l + 1) n (by omega)
  have el : (us d n).length = (us d (l + 1)).length + r.length := by rw [hr, List.length_append]
  rw [sq_u (fun k hk => un_pre (n := n) (by omega) hk)] at h0
  have e : (up : Int) = 10 ^ r.length * (u0 : Int) := by
    rw [hu, el, sq_all r.length (fun k a b => by have := un_behind (d := d) (i := l + 1) (n := n) (k := k) (by omega) a (by omega); omega), ← h0]
  have e' : up = 10 ^ r.length * u0 := by
    have : (up : Int) = ((10 ^ r.length * u0 : Nat) : Int) := by rw [e, Int.natCast_mul, p10i]
    omega
  have p : 10 ^ (us d n).length = 10 ^ r.length * 10 ^ (us d (l + 1)).length := by rw [el, Nat.pow_add, Nat.mul_comm]
  have p0 : 0 < 10 ^ r.length := Nat.pow_pos (by decide)
  rw [p, e', Nat.gcd_mul_left, Nat.mul_div_mul_left _ _ p0, Nat.mul_div_mul_left _ _ p0]
  exact ⟨h5, h6⟩
theorem eu_0 {gm : gT} : EU (upd2 gm 0 0 0) (upd2 gm 0 0 0) := ⟨fun _ _ _ => rfl, fun _ _ _ _ => rfl⟩
theorem cr_chance {fu : Nat} {p1 p2 p3 : Int32} {g gm g1 g2 : gT} {L Lm L1 L2 : lT} {rx : Except String Int64} {rm : Int64} (hS : CS g gm) (e1 : fX11_chance_0 fu p1 p2 p3 g L = some (rx, (g1, L1))) (e2 : fX12_chance fu p1 p2 p3 gm Lm = some (rm, (g2, L2))) : (rx = .ok rm ∧ g2 0 0 = 0) ∨ (rx = .error NSE ∧ g2 0 0 = 1) ∨ (rx = .error IAE ∧ g2 0 0 = 2) := by
  have h := hS.1
  have hp := h.1.1
  have hI := hp.2.1
  obtain ⟨k1, -⟩ := hp.2.2.2.2.2.2.1
  have r1 := hI 0 1 0 12 rfl
  have h88 : g 8 8 = -1 := h.1.2.2.2.2.2.1
  have a0 : upd2 gm 0 0 0 0 0 = 0 := upd2_at
  have a1 : upd2 gm 0 0 0 0 1 = gm 0 1 := rfl
  unfold fX11_chance_0 fX11_chance_0_p48 at e1
  unfold fX12_chance fX12_chance_p38 at e2
  unfold sti at e2
  have e2 : cb (fX12_isLesson fu p1 (upd2 gm 0 0 0) Lm) _ = some (rm, (g2, L2)) := e2
  by_cases c1 : isL (gm 0 1) p1
  rotate_left
  · rw [xneed0 (by rw [k1]; exact c1)] at e1
    have e1 : some (.error NSE, (g, L)) = some (rx, (g1, L1)) := e1
    rw [lesson0 a0 (by rw [a1]; exact c1)] at e2
    have e2 : some ((0 : Int64), (upd2 (upd2 gm 0 0 0) 0 0 1, Lm)) = some (rm, (g2, L2)) := e2
    cases e1; cases e2
    exact Or.inr (Or.inl ⟨rfl, upd2_at⟩)
  rw [xneed1 (by rw [k1]; exact c1), cbxs] at e1
  rw [lesson1 a0 (by rw [a1]; exact c1), cbs, if_neg (by decide)] at e2
  have i1 : (1 : Int32).toInt = 1 := rfl
  have i2 : (2 : Int32).toInt = 2 := rfl
  by_cases c2 : 0 ≤ p3.toInt ∧ p3.toInt ≤ (1 : Int32).toInt
  rotate_left
  · rw [xwhat0 (fun hh => c2 (by omega))] at e1
    have e1 : some (.error NSE, (g, L)) = some (rx, (g1, L1)) := e1
    rw [what0 a0 c2] at e2
    have e2 : some ((0 : Int64), (upd2 (upd2 gm 0 0 0) 0 0 1, Lm)) = some (rm, (g2, L2)) := e2
    cases e1; cases e2
    exact Or.inr (Or.inl ⟨rfl, upd2_at⟩)
  rw [xwhat1 c2.1 (by omega), cbxs] at e1
  rw [what1 a0 c2.1 c2.2, cbs, if_neg (by decide)] at e2
  by_cases c3 : (0 : Int32).toInt ≤ p2.toInt ∧ p2.toInt ≤ (999 : Int32).toInt
  rotate_left
  · rw [xwith0 c3] at e1
    have e1 : some (.error IAE, (g, L)) = some (rx, (g1, L1)) := e1
    rw [within0 c3, cbs, right0 a0 (by decide), cbs, if_pos rfl] at e2
    cases e1; cases e2
    exact Or.inr (Or.inr ⟨rfl, upd2_at⟩)
  rw [xwith1 c3.1 c3.2, cbxs] at e1
  rw [within1 c3.1 c3.2, cbs, right1 a0, cbs, if_neg (by decide)] at e2
  have hl := l12 c1 r1.2
  obtain ⟨l, el⟩ : ∃ i : Nat, p1.toInt = (i : Int) := ⟨p1.toInt.toNat, by omega⟩
  have nl : l < (gm 0 1).toInt.toNat := by have := c1.2; omega
  have hN := nb_of hS (e0_u (x := 0))
  obtain ⟨xa, ga, La, ea, e1⟩ := cb_some e1
  obtain ⟨xb, gb, Lb, eb, e2⟩ := cb_some e2
  obtain ⟨xc, gc, Lc, ec, e2⟩ := cb_some e2
  obtain ⟨xd, gd, Ld, ed, e2⟩ := cb_some e2
  obtain ⟨xe, ge, Le, ee, e2⟩ := cb_some e2
  cases e2
  obtain ⟨cs, hX, hM, -⟩ := dc_all h
  have hX := hX.d (e0_u (x := 0))
  have hM := hM.d (e0_u (x := 0))
  have h7 : ∀ i, i < (gm 0 1).toInt.toNat → g (57 + i) 12 = upd2 gm 0 0 0 7 i := fun i hi => by
    rw [upd2_nk (by decide)]
    exact (h.1.2.1.1 i (by omega)).2.1.2.2.1
  have u := ofLate_x hX h88 h7 hN el nl _ _ _ ea
  obtain ⟨b1, b2, b3⟩ := asks_m hM.1.1 hM.1.2 (fun i hi => (hN.1 i hi).1.2.2.2) eu_0 _ _ _ eb
  obtain ⟨w1, w2, w3⟩ := weighs_m hM hN el nl b1 b3 _ _ _ ec
  have len := us_len (d := upd2 gm 0 0 0) (gm 0 1).toInt.toNat
  obtain ⟨rfl, t2⟩ := tens_m (m := (us (upd2 gm 0 0 0) (gm 0 1).toInt.toNat).length) (by rw [w2]; exact b3.1) len _ _ _ ed
  have np : ¬ p2 = -1 := fun q => by
    have z : (-1 : Int32).toInt = -1 := rfl
    have z0 : (0 : Int32).toInt = 0 := rfl
    rw [q] at c3; omega
  have fe : FW2 p2 = fun t => if t ≤ p2 then 0 else 1 := by
    funext t
    unfold FW2
    rw [if_neg np]
  rw [fe] at w1
  have pos : 0 ≤ xc.toInt := by
    rw [w1]
    exact (sq_b (cs := cs) (u := un (upd2 gm 0 0 0) (gm 0 1).toInt.toNat) (X := 2 ^ (us (upd2 gm 0 0 0) (gm 0 1).toInt.toNat).length) hN (fun i hi => hM.2.1 i (by omega)) nl (by rw [← fe]; exact ff_w) len (fun k hk => (us_lt _ _ (un_m hk)).2) (sh_m _ len).2).1.1
  obtain ⟨up, hup⟩ : ∃ up : Nat, xc.toInt = (up : Int) := ⟨xc.toInt.toNat, by omega⟩
  obtain ⟨rfl, v⟩ := portion_m hup t2 _ _ _ ee
  obtain ⟨q5, q6⟩ := portion_e u nl (hup.symm.trans w1)
  have z : g2 0 0 = 0 := by rw [w3, b1.2 0 (by decide) (by decide) (by decide)]; exact a0
  by_cases c0 : p3 = 0
  · rw [if_pos c0] at e1 v
    cases e1
    exact Or.inl ⟨by rw [Int64.toInt_inj.mp (q5.trans v.symm)], z⟩
  · rw [if_neg c0] at e1 v
    cases e1
    exact Or.inl ⟨by rw [Int64.toInt_inj.mp (q6.trans v.symm)], z⟩
theorem cr_mean {fu : Nat} {p1 p2 : Int32} {g gm g1 g2 : gT} {L Lm L1 L2 : lT} {rx : Except String Int64} {rm : Int64} (hS : CS g gm) (e1 : fX11_mean_0 fu p1 p2 g L = some (rx, (g1, L1))) (e2 : fX12_mean fu p1 p2 gm Lm = some (rm, (g2, L2))) : (rx = .ok rm ∧ g2 0 0 = 0) ∨ (rx = .error NSE ∧ g2 0 0 = 1) := by
  have h := hS.1
  have hp := h.1.1
  have hI := hp.2.1
  obtain ⟨k1, -⟩ := hp.2.2.2.2.2.2.1
  have r1 := hI 0 1 0 12 rfl
  have h88 : g 8 8 = -1 := h.1.2.2.2.2.2.1
  have a0 : upd2 gm 0 0 0 0 0 = 0 := upd2_at
  have a1 : upd2 gm 0 0 0 0 1 = gm 0 1 := rfl
  unfold fX11_mean_0 fX11_mean_0_p39 at e1
  unfold fX12_mean fX12_mean_p22 at e2
  unfold sti at e2
  have e2 : cb (fX12_isLesson fu p1 (upd2 gm 0 0 0) Lm) _ = some (rm, (g2, L2)) := e2
  by_cases c1 : isL (gm 0 1) p1
  rotate_left
  · rw [xneed0 (by rw [k1]; exact c1)] at e1
    have e1 : some (.error NSE, (g, L)) = some (rx, (g1, L1)) := e1
    rw [lesson0 a0 (by rw [a1]; exact c1)] at e2
    have e2 : some ((0 : Int64), (upd2 (upd2 gm 0 0 0) 0 0 1, Lm)) = some (rm, (g2, L2)) := e2
    cases e1; cases e2
    exact Or.inr ⟨rfl, upd2_at⟩
  rw [xneed1 (by rw [k1]; exact c1), cbxs] at e1
  rw [lesson1 a0 (by rw [a1]; exact c1), cbs, if_neg (by decide)] at e2
  have i1 : (1 : Int32).toInt = 1 := rfl
  have i2 : (2 : Int32).toInt = 2 := rfl
  by_cases c2 : 0 ≤ p2.toInt ∧ p2.toInt ≤ (1 : Int32).toInt
  rotate_left
  · rw [xwhat0 (fun hh => c2 (by omega))] at e1
    have e1 : some (.error NSE, (g, L)) = some (rx, (g1, L1)) := e1
    rw [what0 a0 c2] at e2
    have e2 : some ((0 : Int64), (upd2 (upd2 gm 0 0 0) 0 0 1, Lm)) = some (rm, (g2, L2)) := e2
    cases e1; cases e2
    exact Or.inr ⟨rfl, upd2_at⟩
  rw [xwhat1 c2.1 (by omega), cbxs] at e1
  rw [what1 a0 c2.1 c2.2, cbs, if_neg (by decide)] at e2
  have hl := l12 c1 r1.2
  obtain ⟨l, el⟩ : ∃ i : Nat, p1.toInt = (i : Int) := ⟨p1.toInt.toNat, by omega⟩
  have nl : l < (gm 0 1).toInt.toNat := by have := c1.2; omega
  have hN := nb_of hS (e0_u (x := 0))
  obtain ⟨xa, ga, La, ea, e1⟩ := cb_some e1
  obtain ⟨xb, gb, Lb, eb, e2⟩ := cb_some e2
  obtain ⟨xc, gc, Lc, ec, e2⟩ := cb_some e2
  obtain ⟨xd, gd, Ld, ed, e2⟩ := cb_some e2
  obtain ⟨xe, ge, Le, ee, e2⟩ := cb_some e2
  cases e2
  obtain ⟨cs, hX, hM, -⟩ := dc_all h
  have hX := hX.d (e0_u (x := 0))
  have hM := hM.d (e0_u (x := 0))
  have h7 : ∀ i, i < (gm 0 1).toInt.toNat → g (57 + i) 12 = upd2 gm 0 0 0 7 i := fun i hi => by
    rw [upd2_nk (by decide)]
    exact (h.1.2.1.1 i (by omega)).2.1.2.2.1
  have u := meanLate_x hX h88 h7 hN el nl _ _ _ ea
  obtain ⟨b1, b2, b3⟩ := asks_m hM.1.1 hM.1.2 (fun i hi => (hN.1 i hi).1.2.2.2) eu_0 _ _ _ eb
  obtain ⟨w1, w2, w3⟩ := weighs_m hM hN el nl b1 b3 _ _ _ ec
  have len := us_len (d := upd2 gm 0 0 0) (gm 0 1).toInt.toNat
  obtain ⟨rfl, t2⟩ := tens_m (m := (us (upd2 gm 0 0 0) (gm 0 1).toInt.toNat).length) (by rw [w2]; exact b3.1) len _ _ _ ed
  have fe : FW2 (-1) = fun t => t.toInt := by
    funext t
    unfold FW2
    rw [if_pos rfl]
  rw [fe] at w1
  have pos : 0 ≤ xc.toInt := by
    rw [w1]
    exact (sq_b (cs := cs) (u := un (upd2 gm 0 0 0) (gm 0 1).toInt.toNat) (X := 2 ^ (us (upd2 gm 0 0 0) (gm 0 1).toInt.toNat).length) hN (fun i hi => hM.2.1 i (by omega)) nl (by rw [← fe]; exact ff_w) len (fun k hk => (us_lt _ _ (un_m hk)).2) (sh_m _ len).2).1.1
  obtain ⟨up, hup⟩ : ∃ up : Nat, xc.toInt = (up : Int) := ⟨xc.toInt.toNat, by omega⟩
  obtain ⟨rfl, v⟩ := portion_m hup t2 _ _ _ ee
  obtain ⟨q5, q6⟩ := portion_e u nl (hup.symm.trans w1)
  have z : g2 0 0 = 0 := by rw [w3, b1.2 0 (by decide) (by decide) (by decide)]; exact a0
  by_cases c0 : p2 = 0
  · rw [if_pos c0] at e1 v
    cases e1
    exact Or.inl ⟨by rw [Int64.toInt_inj.mp (q5.trans v.symm)], z⟩
  · rw [if_neg c0] at e1 v
    cases e1
    exact Or.inl ⟨by rw [Int64.toInt_inj.mp (q6.trans v.symm)], z⟩
