/-! ===== term answers alike ===== -/
theorem ld_f {cs : Nat → List Int} {d e : gT} {bg en ru by_ : Nat → Int32} {i : Nat} (h0 : ∀ j, j = 3 ∨ j = 4 ∨ j = 52 ∨ j = 61 → e 0 j = d 0 j) (hs : stb (e 0 60) i = 1 ↔ stb (d 0 60) i = 1) (h1 : e 1 i = d 1 i) (h2 : e 2 i = d 2 i) (h3 : e 3 = d 3) (h4 : e 4 = d 4) (h5 : e 5 = d 5) (h6 : e 6 = d 6) (h8 : e 8 = d 8) (h9 : e 9 = d 9) (h12 : e 12 = d 12) (h : LD cs d bg en ru by_ i) : LD cs e bg en ru by_ i := by
  have z3 := h0 3 (Or.inl rfl)
  have z4 := h0 4 (Or.inr (Or.inl rfl))
  have z52 := h0 52 (Or.inr (Or.inr (Or.inl rfl)))
  have z61 := h0 61 (Or.inr (Or.inr (Or.inr rfl)))
  have hc : cmg e = cmg d := by
    funext en i k
    unfold cmg wf0 wy
    rw [z3, z4, h4, h9, h12]
  have ht : ∀ b, tl e b i = tl d b i := fun b => by
    funext j
    match j with
    | 0 => show e 12 i = d 12 i; rw [h12]
    | 1 => show b - e 1 i = b - d 1 i; rw [h1]
    | 2 => rfl
    | 3 => show e 12 (24 + i) = d 12 (24 + i); rw [h12]
    | 4 => show e 4 i = d 4 i; rw [h4]
    | 5 => rfl
    | j + 6 => rfl
  have ho : ∀ b, ov cs e i b = ov cs d i b := fun b => by
    rw [ov_e, ov_e]
    unfold gv
    rw [z61, z52, h12, ht]
    by_cases c : stb (d 0 60) i = 1
    · rw [if_pos c, if_pos (hs.mpr c)]
    · rw [if_neg c, if_neg (fun q => c (hs.mp q))]
  unfold LD LB FC
  rw [hc, ho, h1, h2, h3, h5, h6, h8, h9, h12]
  exact h
/-- some run over, some don't -/
def rn0 (d : gT) (m : Int32) : gT := upd2 d 0 60 m
theorem rn0_k {d : gT} {m : Int32} {k : Nat} (h : k ≠ 0) : rn0 d m k = d k := funext fun _ => by unfold rn0; rw [upd2_nk h]
theorem rn0_j {d : gT} {m : Int32} {j : Nat} (h : j ≠ 60) : rn0 d m 0 j = d 0 j := by unfold rn0; rw [upd2_nj h]
theorem rn0_60 {d : gT} {m : Int32} : rn0 d m 0 60 = m := by unfold rn0; rw [upd2_at]
theorem wf_rn {n : Nat} {d : gT} {m : Int32} (hW : WF n d) : WF n (rn0 d m) := wf_e hW (rn0_k (by decide)) (rn0_k (by decide)) (rn0_k (by decide)) (rn0_k (by decide))
theorem ld_rn {cs : Nat → List Int} {d : gT} {m m' : Int32} {bg en ru by_ : Nat → Int32} {i : Nat} (hs : stb m' i = 1 ↔ stb m i = 1) (h : LD cs (rn0 d m) bg en ru by_ i) : LD cs (rn0 d m') bg en ru by_ i := by
  have kk : ∀ k, k ≠ 0 → rn0 d m' k = rn0 d m k := fun k a => by rw [rn0_k a, rn0_k a]
  exact ld_f (fun j hj => by rw [rn0_j (by omega), rn0_j (by omega)]) (by rw [rn0_60, rn0_60]; exact hs) (by rw [kk 1 (by decide)]) (by rw [kk 2 (by decide)]) (kk 3 (by decide)) (kk 4 (by decide)) (kk 5 (by decide)) (kk 6 (by decide)) (kk 8 (by decide)) (kk 9 (by decide)) (kk 12 (by decide)) h
theorem DC.run {cs : Nat → List Int} {n : Nat} {x m : Int32} {g d : gT} (h : DC cs n g d) (hx : ∀ i, i < n → (stb x i = 0 ↔ stb m i = 1)) : DC cs n (upd2 g 8 8 x) (rn0 d m) := by
  obtain ⟨a1, a3, a4, a5, a6, a7, a8, a9, a10⟩ := h
  have ek : ∀ k, k ≠ 8 → upd2 g 8 8 x k = g k := fun k hk => funext fun _ => upd2_nk hk
  refine ⟨by rw [ek 1 (by decide)]; exact a1, fun i hi => ⟨(a3 i hi).1.c (ek _ (by omega)) (ek _ (by omega)) (fun k x _ => rn0_k (by omega)), (a3 i hi).2.c (ek _ (by decide)) (ek _ (by decide)) (ek _ (by decide)) (ek _ (by decide)) (rn0_k (by decide))⟩, ?_, wf_rn a5, ?_, ?_, ?_, ?_, ?_⟩
  · rw [ek 1 (by decide), rn0_j (by decide), rn0_j (by decide)]; exact a4
  · rw [rn0_k (by decide), rn0_k (by decide)]; exact a6
  · rw [ek 6 (by decide), ek 3 (by decide), rn0_j (by decide)]; exact a7
  · rw [ek 3 (by decide), ek 20 (by decide), ek 19 (by decide)]; exact a8
  · rw [upd2_at, rn0_60]; exact hx
  · rw [upd2_nj (by decide), rn0_j (by decide)]; exact a10
theorem i32_nle {a b : Int32} (h : a < b) : ¬ b ≤ a := fun hh => by
  have := ic_lt.mp h
  have := ic_le.mp hh
  omega
theorem i32_nlt {a b : Int32} (h : ¬ a < b) : b ≤ a := ic_le.mpr (icc_nlt (m := a.toInt) (n := b.toInt) rfl rfl h)
/-- the draws -/
def dr (s : Int32) : Int32 := s * 1103515245 + 12345
def dv (s : Int32) : Int32 := ((s >>> ((16 : Int32) &&& (31 : Int32))) &&& (32767 : Int32)) - ((s >>> ((16 : Int32) &&& (31 : Int32))) &&& (32767 : Int32)) / 10 * 10
theorem b15 : ∀ i : Nat, i < 32 → (32767#32).getLsbD i = decide (i < 15) := by decide
theorem sh16 {s : Int32} : (Int32.toUInt32 s >>> (Int32.toUInt32 16 &&& Int32.toUInt32 31)).toInt32 &&& 32767 = (s >>> ((16 : Int32) &&& (31 : Int32))) &&& (32767 : Int32) := by
  refine Int32.toBitVec_inj.mp ?_
  rw [Int32.toBitVec_and, Int32.toBitVec_and]
  have l : (Int32.toUInt32 s >>> (Int32.toUInt32 16 &&& Int32.toUInt32 31)).toInt32.toBitVec = s.toBitVec >>> 16 := rfl
  have r : (s >>> ((16 : Int32) &&& 31)).toBitVec = s.toBitVec.sshiftRight 16 := rfl
  have k : (32767 : Int32).toBitVec = 32767#32 := rfl
  rw [l, r, k]
  refine BitVec.eq_of_getLsbD_eq (fun i hi => ?_)
  rw [BitVec.getLsbD_and, BitVec.getLsbD_and, BitVec.getLsbD_ushiftRight, BitVec.getLsbD_sshiftRight, b15 i hi]
  by_cases c : i < 15
  · rw [if_pos (show 16 + i < 32 by omega), decide_eq_false (show ¬ 32 ≤ i by omega)]
    rfl
  · rw [decide_eq_false c, Bool.and_false, Bool.and_false]
/-- the seed when i lessons have drawn; who runs over -/
def sdd (d : gT) (s : Int32) : Nat → Int32
  | 0 => s
  | i + 1 => if d 7 i = 10 then sdd d s i else dr (sdd d s i)
def rns (d : gT) (s : Int32) (i : Nat) : Prop := d 7 i = 10 ∨ ¬ d 7 i ≤ dv (dr (sdd d s i))
theorem ten_x {fu : Nat} {g : gT} {L : lT} : Pc (fX0_drawOfTen_11 fu g L) (fun x g1 _ => g1 = upd2 g 11 4 (dr (g 11 4)) ∧ x = dv (dr (g 11 4))) := by
  unfold fX0_drawOfTen_11
  refine pc_st (fun g1 e1 => pc_cnz (pc_some ⟨e1, ?_⟩))
  rw [sh16, e1, upd2_at]; rfl
theorem draw_x {cs : Nat → List Int} {n fu : Nat} {g d : gT} {L : lT} {s : Int32} (h : DC cs n g d) (h7 : ∀ i, i < n → g (57 + i) 12 = d 7 i) (hs : g 11 4 = s) : Pc (fX0_drawRunning_11 fu g L) (fun x g1 _ => (∀ k, k ≠ 11 → g1 k = g k) ∧ g1 11 4 = sdd d s n ∧ ∀ o, o < n → (tbi x o = true ↔ rns d s o)) := by
  have hn := h.1
  have n12 := h.1.2
  unfold fX0_drawRunning_11 fX0_drawRunning_11_l4
  refine pc_loop (fun v => ∃ i : Nat, v.2.1.toInt = (i : Int) ∧ i ≤ n ∧ (∀ k, k ≠ 11 → v.2.2.1 k = g k) ∧ v.2.2.1 11 4 = sdd d s i ∧ ∀ o, o < n → (tbi v.1 o = true ↔ (o < i ∧ rns d s o))) (fun k4 hk v hv => ?_) ⟨0, rfl, by omega, fun _ _ => rfl, hs, fun o ho => ⟨fun q => by
    have q : tbi 0 o = true := q
    rw [tb_0] at q; exact absurd q (by decide), fun q => absurd q.1 (Nat.not_lt_zero _)⟩⟩
  obtain ⟨v1, v2, g', L'⟩ := v
  obtain ⟨i, hi, ni, ek, es, hb⟩ := hv
  replace hi : v2.toInt = (i : Int) := hi
  replace ek : ∀ k, k ≠ 11 → g' k = g k := ek
  replace es : g' 11 4 = sdd d s i := es
  replace hb : ∀ o, o < n → (tbi v1 o = true ↔ (o < i ∧ rns d s o)) := hb
  show Pc (fX0_drawRunning_11_s4 fu k4 v1 v2 g' L') _
  unfold fX0_drawRunning_11_s4 fX0_drawRunning_11_p48 fX0_drawRunning_11_p54
  have e12 : (g' 1 2).toInt = (n : Int) := by rw [ek 1 (by decide)]; exact hn.1
  have ei : v2.toNatClampNeg = i := by rw [nc, hi]; omega
  have vi : v2 = Int32.ofInt (i : Int) := by rw [← hi]; exact io_i.symm
  refine pc_ite (fun c => pc_some ⟨ek, ?_, fun o ho => ?_⟩) (fun c => ?_)
  · have c := icc_le e12 hi c
    rw [es, show i = n by omega]
  · have c := icc_le e12 hi c
    exact (hb o ho).trans ⟨fun q => q.2, fun q => ⟨by omega, q⟩⟩
  have c := icc_nle e12 hi c
  have ew : (v2 + 1).toInt = ((i + 1 : Nat) : Int) := by rw [ic_addc hi (n := 1) rfl (by omega) (by omega)]; omega
  rw [ei, show i % 12 = i by omega]
  refine pc_ck (fun _ _ => pc_ltn (fun q eq => ?_))
  subst eq
  refine pc_lti (fun x3 e3 => ?_)
  have d3 : x3 = d 7 i := by rw [e3, ek (57 + i) (by omega)]; exact h7 i (by omega)
  have bit : rns d s i → ∀ o, o < n → (tbi (v1 ||| ((1 : Int32) <<< (v2 &&& 31))) o = true ↔ (o < i + 1 ∧ rns d s o)) := fun hr o ho => by
    rw [tb_or, vi, tb_s i (by omega) o (by omega)]
    by_cases q : i = o
    · rw [decide_eq_true q, Bool.or_true]
      exact ⟨fun _ => ⟨by omega, by rw [← q]; exact hr⟩, fun _ => rfl⟩
    · rw [decide_eq_false q, Bool.or_false]
      exact (hb o ho).trans ⟨fun w => ⟨by omega, w.2⟩, fun w => ⟨by omega, w.2⟩⟩
  have nob : ¬ rns d s i → ∀ o, o < n → (tbi v1 o = true ↔ (o < i + 1 ∧ rns d s o)) := fun hr o ho =>
    (hb o ho).trans ⟨fun w => ⟨by omega, w.2⟩, fun w => ⟨by
      by_cases q : o = i
      · rw [q] at w; exact absurd w.2 hr
      · omega, w.2⟩⟩
  refine pc_ite (fun c1 => pc_lti (fun x4 e4 => hk _ ⟨i + 1, ew, by omega, ek, ?_, ?_⟩)) (fun c1 => pc_cb ten_x (fun x6 g7 L8 q => ?_))
  · show g' 11 4 = if d 7 i = 10 then _ else _
    rw [if_pos (by rw [← d3]; exact c1)]; exact es
  · show ∀ o, o < n → (tbi x4 o = true ↔ _)
    rw [e4]; exact bit (Or.inl (by rw [← d3]; exact c1))
  · obtain ⟨q1, q2⟩ := q
    rw [es] at q1 q2
    have c1' : ¬ d 7 i = 10 := by rw [← d3]; exact c1
    have k7 : ∀ k, k ≠ 11 → g7 k = g k := fun k hk => by rw [q1, ← ek k hk]; exact funext fun _ => upd2_nk hk
    have s7 : g7 11 4 = sdd d s (i + 1) := by
      show g7 11 4 = if d 7 i = 10 then _ else _
      rw [if_neg c1', q1, upd2_at]
    rw [d3, q2]
    refine pc_ite (fun c2 => hk _ ⟨i + 1, ew, by omega, k7, s7, nob (fun hr => ?_)⟩) (fun c2 => pc_lti (fun x4 e4 => hk _ ⟨i + 1, ew, by omega, k7, s7, ?_⟩))
    · rcases hr with hr | hr
      · exact c1' hr
      · exact hr c2
    · show ∀ o, o < n → (tbi x4 o = true ↔ _)
      rw [e4]; exact bit (Or.inr c2)
/-- a day on which just these run over: what is lost, how late l is -/
def TD (cs : Nat → List Int) (n : Nat) (d : gT) (R : Nat → Prop) (l : Nat) (v t : Int32) : Prop := ∃ m bg en ru by_, (∀ i, i < n → (stb m i = 1 ↔ ¬ R i)) ∧ DY cs (rn0 d m) n bg en ru by_ ∧ v = fo (fLost d en) n ∧ t = en l - d 2 l
theorem TD.u {cs : Nat → List Int} {n l : Nat} {d : gT} {R : Nat → Prop} {v t v' t' : Int32} (hW : WF n d) (ln : l < n) (h : TD cs n d R l v t) (h' : TD cs n d R l v' t') : v = v' ∧ t = t' := by
  obtain ⟨m1, b1, e1, r1, y1, k1, h1, u1, w1⟩ := h
  obtain ⟨m2, b2, e2, r2, y2, k2, h2, u2, w2⟩ := h'
  have h2' : DY cs (rn0 d m1) n b2 e2 r2 y2 := fun i hi => ld_rn ((k1 i hi).trans (k2 i hi).symm) (h2 i hi)
  have u := DY.u (wf_rn hW) h1 h2'
  refine ⟨?_, by rw [w1, w2, (u l ln).2.1]⟩
  rw [u1, u2]
  exact fo_c (fun i hi a => by unfold fLost; rw [(u i hi).2.1])
/-- so many days: together, at most, on how many late -/
def TT (cs : Nat → List Int) (n : Nat) (d : gT) (l : Nat) (s : Int32) : Nat → Int32 → Int32 → Int32 → Int32 → Prop
  | 0, z, a, b, c => z = s ∧ a = 0 ∧ b = 0 ∧ c = 0
  | k + 1, z, a, b, c => ∃ z' a' b' c' v t, TT cs n d l s k z' a' b' c' ∧ TD cs n d (rns d z') l v t ∧ z = sdd d z' n ∧ a = a' + v ∧ b = (if b' < v then v else b') ∧ c = c' + (if t ≤ 0 then 0 else 1)
theorem TT.u {cs : Nat → List Int} {n l : Nat} {d : gT} {s : Int32} (hW : WF n d) (ln : l < n) : ∀ (k : Nat) {z a b c z' a' b' c' : Int32}, TT cs n d l s k z a b c → TT cs n d l s k z' a' b' c' → z = z' ∧ a = a' ∧ b = b' ∧ c = c' := by
  intro k
  induction k with
  | zero =>
    intro z a b c z' a' b' c' h h'
    obtain ⟨x1, x2, x3, x4⟩ := h
    obtain ⟨y1, y2, y3, y4⟩ := h'
    exact ⟨by rw [x1, y1], by rw [x2, y2], by rw [x3, y3], by rw [x4, y4]⟩
  | succ k ih =>
    intro z a b c z' a' b' c' h h'
    obtain ⟨z1, a1, b1, c1, v1, t1, h1, h2, x1, x2, x3, x4⟩ := h
    obtain ⟨z2, a2, b2, c2, v2, t2, g1, g2, y1, y2, y3, y4⟩ := h'
    obtain ⟨rfl, rfl, rfl, rfl⟩ := ih h1 g1
    obtain ⟨rfl, rfl⟩ := TD.u hW ln h2 g2
    exact ⟨by rw [x1, y1], by rw [x2, y2], by rw [x3, y3], by rw [x4, y4]⟩
theorem term_x {cs : Nat → List Int} {n l D fu : Nat} {p1 p2 p3 p4 : Int32} {g d : gT} {L : lT} (h : DC cs n g d) (h7 : ∀ i, i < n → g (57 + i) 12 = d 7 i) (hl : p3.toInt = (l : Int)) (ln : l < n) (hD : p2.toInt = (D : Int)) (d60 : D ≤ 60) : Pc (fX0_ofTerm_11 fu p1 p2 p3 p4 g L) (fun x _ _ => ∃ z a b c, TT cs n d l p1 D z a b c ∧ x = if p4 = 0 then a else if p4 = 1 then b else c) := by
  have hW := h.2.2.2.1
  have n12 := h.1.2
  unfold fX0_ofTerm_11
  refine pc_st (fun g1 e1 => ?_)
  have k1 : ∀ k, k ≠ 11 → g1 k = g k := fun k hk => by rw [e1]; exact funext fun _ => upd2_nk hk
  unfold fX0_ofTerm_11_l17
  refine pc_loop (fun v => ∃ k : Nat, v.2.2.2.1.toInt = (k : Int) ∧ k ≤ D ∧ (∀ k, k ≠ 8 → k ≠ 11 → k ≠ 21 → (k < 43 ∨ 48 < k) → v.2.2.2.2.1 k = g k) ∧ (∀ j, j ≠ 8 → v.2.2.2.2.1 8 j = g 8 j) ∧ TT cs n d l p1 k (v.2.2.2.2.1 11 4) v.1 v.2.1 v.2.2.1) (fun k17 hk v hv => ?_) ⟨0, rfl, by omega, fun k _ a _ _ => k1 k a, fun j _ => by show g1 8 j = _; rw [k1 8 (by decide)], ⟨by show g1 11 4 = p1; rw [e1, upd2_at], rfl, rfl, rfl⟩⟩
  obtain ⟨v5, v6, v7, v8, g', L'⟩ := v
  obtain ⟨k, hkk, kD, ek, e8, ht⟩ := hv
  replace hkk : v8.toInt = (k : Int) := hkk
  replace ek : ∀ k, k ≠ 8 → k ≠ 11 → k ≠ 21 → (k < 43 ∨ 48 < k) → g' k = g k := ek
  replace e8 : ∀ j, j ≠ 8 → g' 8 j = g 8 j := e8
  replace ht : TT cs n d l p1 k (g' 11 4) v5 v6 v7 := ht
  show Pc (fX0_ofTerm_11_s17 fu p2 p3 p4 k17 v5 v6 v7 v8 g' L') _
  unfold fX0_ofTerm_11_s17 fX0_ofTerm_11_p116
  refine pc_ite (fun c => pc_st (fun g3 e3 => ?_)) (fun c => ?_)
  · have c := icc_le hD hkk c
    rw [show k = D by omega] at ht
    refine pc_ite (fun c0 => pc_some ⟨_, _, _, _, ht, ?_⟩) (fun c0 => pc_ite (fun c1 => pc_some ⟨_, _, _, _, ht, ?_⟩) (fun c1 => pc_some ⟨_, _, _, _, ht, ?_⟩))
    · rw [if_pos c0]
    · rw [if_neg c0, if_pos c1]
    · rw [if_neg c0, if_neg c1]
  have c := icc_nle hD hkk c
  have ew : (v8 + 1).toInt = ((k + 1 : Nat) : Int) := by rw [ic_addc hkk (n := 1) rfl (by omega) (by omega)]; omega
  -- the base: who runs over aside, all is as it was
  have base : ∀ (x m : Int32) (gz : gT), (∀ k, k ≠ 8 → k ≠ 11 → k ≠ 21 → (k < 43 ∨ 48 < k) → gz k = g k) → (∀ j, j ≠ 8 → gz 8 j = g 8 j) → gz 8 8 = x → (∀ i, i < n → (stb x i = 0 ↔ stb m i = 1)) → DC cs n gz (rn0 d m) := fun x m gz a b c e => (h.run e).c3 (fun k q => by
    by_cases k8 : k = 8
    · subst k8
      funext j
      by_cases j8 : j = 8
      · rw [j8, c, upd2_at]
      · rw [b j j8, upd2_nj j8]
    · rw [a k k8 (by omega) (by omega) (by omega)]
      exact funext fun _ => (upd2_nk k8).symm)
  have hD0 : DC cs n g' (rn0 d (g' 8 8 ^^^ -1)) := base (g' 8 8) _ g' ek e8 rfl (fun i hi => by
    rw [stb_0i (by omega), stb_1i (by omega), tb_n1x (by omega)]
    cases tbi (g' 8 8) i <;> decide)
  refine pc_cb (draw_x (d := rn0 d (g' 8 8 ^^^ -1)) hD0 (fun i hi => by rw [ek (57 + i) (by omega) (by omega) (by omega) (by omega), rn0_k (by decide)]; exact h7 i hi) rfl) (fun x6 g7 L8 q => ?_)
  obtain ⟨q1, q2, q3⟩ := q
  have es : ∀ i, sdd (rn0 d (g' 8 8 ^^^ -1)) (g' 11 4) i = sdd d (g' 11 4) i := fun i => by
    induction i with
    | zero => rfl
    | succ i ih =>
      show (if rn0 d (g' 8 8 ^^^ -1) 7 i = 10 then _ else _) = if d 7 i = 10 then _ else _
      rw [rn0_k (by decide), ih]
  have q3' : ∀ o, o < n → (tbi x6 o = true ↔ rns d (g' 11 4) o) := fun o ho => by
    have a := q3 o ho
    unfold rns at a ⊢
    rw [rn0_k (by decide), es] at a
    exact a
  rw [es] at q2
  refine pc_st (fun g10 e10 => ?_)
  have k10 : ∀ k, k ≠ 8 → k ≠ 11 → k ≠ 21 → (k < 43 ∨ 48 < k) → g10 k = g k := fun k a b c e => by
    rw [e10, ← ek k a b c e, ← q1 k b]; exact funext fun _ => upd2_nk a
  have j10 : ∀ j, j ≠ 8 → g10 8 j = g 8 j := fun j hj => by rw [e10, upd2_nj hj, q1 8 (by decide)]; exact e8 j hj
  have x10 : g10 8 8 = x6 := by rw [e10, upd2_at]
  have mk : ∀ i, i < n → (stb (x6 ^^^ -1) i = 1 ↔ ¬ rns d (g' 11 4) i) := fun i hi => by
    rw [stb_1i (by omega), tb_n1x (by omega), ← q3' i hi]
    cases tbi x6 i <;> decide
  have hD10 : DC cs n g10 (rn0 d (x6 ^^^ -1)) := base x6 _ g10 k10 j10 x10 (fun i hi => by
    rw [stb_0i (by omega), stb_1i (by omega), tb_n1x (by omega)]
    cases tbi x6 i <;> decide)
  refine pc_cb (lf_x hD10 (f := 0) rfl (Nat.zero_le _)) (fun x11 g12 L13 e12 => ?_)
  obtain ⟨⟨r1, -, r3⟩, u11⟩ := e12
  refine pc_lti (fun x15 e15 => pc_lti (fun x16 e16 => pc_cb (late_x (hD10.c r3) hl ln) (fun x17 g18 L19 e17 => ?_)))
  obtain ⟨rfl, e17⟩ := e17
  rw [rn0_k (by decide)] at e17
  have fl : fLost (rn0 d (x6 ^^^ -1)) (g18 44) = fLost d (g18 44) := by
    funext i a
    unfold fLost
    rw [rn0_k (by decide), rn0_k (by decide)]
  rw [fl] at u11
  have td : TD cs n d (rns d (g' 11 4)) l x11 x17 := ⟨_, _, _, _, _, mk, fun i hi => r1 i (Nat.zero_le _) hi, u11, e17⟩
  have s18 : g18 11 4 = sdd d (g' 11 4) n := by rw [r3 11 (by decide) (by omega), e10, upd2_nk (by decide)]; exact q2
  have fin : ∀ (t : Int32) (La : lT), t = (if x17 ≤ 0 then 0 else 1) → Pc (fX0_ofTerm_11_p78 fu k17 p2 p3 p4 x15 x16 v8 t v7 g18 La) (fun x _ _ => ∃ z a b c, TT cs n d l p1 D z a b c ∧ x = if p4 = 0 then a else if p4 = 1 then b else c) := by
    intro t La ht'
    unfold fX0_ofTerm_11_p78
    refine pc_lti (fun x21 e21 => hk _ ⟨k + 1, ew, by omega, fun k a b c e => ?_, fun j hj => ?_, ?_⟩)
    · show g18 k = g k
      rw [r3 k c e, k10 k a b c e]
    · show g18 8 j = g 8 j
      rw [r3 8 (by decide) (by omega), j10 j hj]
    · exact ⟨_, _, _, _, _, _, ht, td, s18, e15, e16, by rw [← ht']; exact e21⟩
  refine pc_ite (fun c2 => fin _ _ ?_) (fun c2 => fin _ _ ?_)
  · rw [if_pos c2]
  · rw [if_neg c2]
theorem draw_m {fu : Nat} {g : gT} {L : lT} : Pc (fX12_draw fu 10 g L) (fun x g1 _ => g1 = upd2 g 0 80 (dr (g 0 80)) ∧ x = dv (dr (g 0 80))) := by
  unfold fX12_draw
  refine pc_st (fun g1 e1 => pc_cnz (pc_some ⟨e1, ?_⟩))
  rw [e1, upd2_at]; rfl
theorem term_m {cs : Nat → List Int} {n l D fu : Nat} {p1 p2 p3 p4 : Int32} {g d : gT} {L : lT} (hM : MD cs n d) (hl : p3.toInt = (l : Int)) (ln : l < n) (hD : p2.toInt = (D : Int)) (d60 : D ≤ 60) (ek : ∀ k, k ≠ 0 → k < 29 → g k = d k) (e0 : ∀ j, j ≠ 60 → j ≠ 80 → g 0 j = d 0 j) (e80 : g 0 80 = p1) : Pc (fX12_term_l57 fu p2 p3 p4 0 0 0 0 g L) (fun x g1 _ => g1 0 0 = d 0 0 ∧ ∃ z a b c, TT cs n d l p1 D z a b c ∧ x = if p4 = 0 then a else if p4 = 1 then b else c) := by
  have hW := hM.2.1
  have n12 := hM.1.2
  unfold fX12_term_l57
  refine pc_loop (fun v => ∃ k : Nat, v.2.2.2.1.toInt = (k : Int) ∧ k ≤ D ∧ (∀ k, k ≠ 0 → k < 29 → v.2.2.2.2.1 k = d k) ∧ (∀ j, j ≠ 60 → j ≠ 80 → v.2.2.2.2.1 0 j = d 0 j) ∧ TT cs n d l p1 k (v.2.2.2.2.1 0 80) v.1 v.2.1 v.2.2.1) (fun k57 hk v hv => ?_) ⟨0, rfl, by omega, ek, e0, ⟨e80, rfl, rfl, rfl⟩⟩
  obtain ⟨v5, v6, v7, v8, g', L'⟩ := v
  obtain ⟨k, hkk, kD, ek, e0, ht⟩ := hv
  replace hkk : v8.toInt = (k : Int) := hkk
  replace ek : ∀ k, k ≠ 0 → k < 29 → g' k = d k := ek
  replace e0 : ∀ j, j ≠ 60 → j ≠ 80 → g' 0 j = d 0 j := e0
  replace ht : TT cs n d l p1 k (g' 0 80) v5 v6 v7 := ht
  show Pc (fX12_term_s57 fu p2 p3 p4 k57 v5 v6 v7 v8 g' L') _
  unfold fX12_term_s57 fX12_term_p208
  refine pc_ite (fun c => pc_st (fun g23 e23 => ?_)) (fun c => pc_st (fun g26 e26 => ?_))
  · have c := icc_le hD hkk c
    rw [show k = D by omega] at ht
    have z : g23 0 0 = d 0 0 := by rw [e23, upd2_nj (by decide)]; exact e0 0 (by decide) (by decide)
    refine pc_ite (fun c0 => pc_some ⟨z, _, _, _, _, ht, ?_⟩) (fun c0 => pc_ite (fun c1 => pc_some ⟨z, _, _, _, _, ht, ?_⟩) (fun c1 => pc_some ⟨z, _, _, _, _, ht, ?_⟩))
    · rw [if_pos c0]
    · rw [if_neg c0, if_pos c1]
    · rw [if_neg c0, if_neg c1]
  have c := icc_nle hD hkk c
  have ew : (v8 + 1).toInt = ((k + 1 : Nat) : Int) := by rw [ic_addc hkk (n := 1) rfl (by omega) (by omega)]; omega
  have k26 : ∀ k, k ≠ 0 → k < 29 → g26 k = d k := fun k a b => by rw [e26, ← ek k a b]; exact funext fun _ => upd2_nk a
  have j26 : ∀ j, j ≠ 60 → j ≠ 80 → g26 0 j = d 0 j := fun j a b => by rw [e26, upd2_nj a]; exact e0 j a b
  have s26 : g26 0 80 = g' 0 80 := by rw [e26, upd2_nj (by decide)]
  have z26 : g26 0 60 = 0 := by rw [e26, upd2_at]
  unfold fX12_term_l71
  refine pc_loop (fun v => ∃ i : Nat, v.1.toInt = (i : Int) ∧ i ≤ n ∧ (∀ k, k ≠ 0 → k < 29 → v.2.1 k = d k) ∧ (∀ j, j ≠ 60 → j ≠ 80 → v.2.1 0 j = d 0 j) ∧ v.2.1 0 80 = sdd d (g' 0 80) i ∧ ∀ o, o < n → (tbi (v.2.1 0 60) o = true ↔ (o < i ∧ ¬ rns d (g' 0 80) o))) (fun k71 hk2 v hv => ?_) ⟨0, rfl, by omega, k26, j26, s26, fun o ho => ⟨fun q => by
    have q : tbi (g26 0 60) o = true := q
    rw [z26, tb_0] at q; exact absurd q (by decide), fun q => absurd q.1 (Nat.not_lt_zero _)⟩⟩
  obtain ⟨v9, g4, L4⟩ := v
  obtain ⟨i, hi, ni, ek4, e04, es, hb⟩ := hv
  replace hi : v9.toInt = (i : Int) := hi
  replace ek4 : ∀ k, k ≠ 0 → k < 29 → g4 k = d k := ek4
  replace e04 : ∀ j, j ≠ 60 → j ≠ 80 → g4 0 j = d 0 j := e04
  replace es : g4 0 80 = sdd d (g' 0 80) i := es
  replace hb : ∀ o, o < n → (tbi (g4 0 60) o = true ↔ (o < i ∧ ¬ rns d (g' 0 80) o)) := hb
  show Pc (fX12_term_s71 fu k57 p2 p3 p4 v5 v6 v7 v8 k71 v9 g4 L4) _
  unfold fX12_term_s71
  have e01 : (g4 0 1).toInt = (n : Int) := by rw [e04 1 (by decide) (by decide)]; exact hM.1.1
  have ei : v9.toNatClampNeg = i := by rw [nc, hi]; omega
  have vi : v9 = Int32.ofInt (i : Int) := by rw [← hi]; exact io_i.symm
  refine pc_ite (fun c1 => ?_) (fun c1 => ?_)
  · have c1 := icc_le e01 hi c1
    have em : i = n := by omega
    rw [em] at es
    have hM4 : MD cs n g4 := by
      unfold MD WF
      rw [ek4 5 (by decide) (by omega), ek4 6 (by decide) (by omega), ek4 8 (by decide) (by omega), ek4 9 (by decide) (by omega), ek4 10 (by decide) (by omega), ek4 11 (by decide) (by omega), e04 1 (by decide) (by decide), e04 52 (by decide) (by decide)]
      exact hM
    have ldc : ∀ bg en ru by_, ∀ i, i < n → LD cs g4 bg en ru by_ i → LD cs (rn0 d (g4 0 60)) bg en ru by_ i := fun bg en ru by_ i hi hL => ld_f (fun j hj => by rw [rn0_j (by omega), e04 j (by omega) (by omega)]) (by rw [rn0_60]) (by rw [rn0_k (by decide), ek4 1 (by decide) (by omega)]) (by rw [rn0_k (by decide), ek4 2 (by decide) (by omega)]) (by rw [rn0_k (by decide), ek4 3 (by decide) (by omega)]) (by rw [rn0_k (by decide), ek4 4 (by decide) (by omega)]) (by rw [rn0_k (by decide), ek4 5 (by decide) (by omega)]) (by rw [rn0_k (by decide), ek4 6 (by decide) (by omega)]) (by rw [rn0_k (by decide), ek4 8 (by decide) (by omega)]) (by rw [rn0_k (by decide), ek4 9 (by decide) (by omega)]) (by rw [rn0_k (by decide), ek4 12 (by decide) (by omega)]) hL
    have key : Pc (fX12_lost fu g4 L4) (fun x g1 _ => WR cs g4 n g1 ∧ x = fo (fLost g4 (g1 32)) n) := by
      unfold fX12_lost
      exact pc_cb (wk_m hM4) (fun _ gz Lz e => pc_mo (lost_m e.2 hM4.1.1 n12) (fun x gy _ q => by rw [q.1]; exact ⟨e, q.2⟩))
    refine pc_cb key (fun x28 g29 L30 q => ?_)
    obtain ⟨⟨w1, w2⟩, q2⟩ := q
    have fl : fLost g4 (g29 32) = fLost d (g29 32) := by
      funext i a
      unfold fLost
      rw [ek4 4 (by decide) (by omega), ek4 2 (by decide) (by omega)]
    rw [fl] at q2
    have mk : ∀ i, i < n → (stb (g4 0 60) i = 1 ↔ ¬ rns d (g' 0 80) i) := fun i' hi' => by
      rw [stb_1i (by omega), hb i' hi']
      exact ⟨fun q => q.2, fun q => ⟨by omega, q⟩⟩
    have dy : DY cs (rn0 d (g4 0 60)) n (g29 31) (g29 32) (g29 33) (g29 34) := fun i hi => ldc _ _ _ _ i hi (w1 i hi)
    have ek29 : ∀ k, k ≠ 0 → k < 29 → g29 k = d k := fun k a b => (w2 k (by omega)).trans (ek4 k a b)
    have e29 : ∀ j, j ≠ 60 → j ≠ 80 → g29 0 j = d 0 j := fun j a b => by rw [w2 0 (by omega)]; exact e04 j a b
    have s29 : g29 0 80 = sdd d (g' 0 80) n := by rw [w2 0 (by omega)]; exact es
    have fin : ∀ (x16 : Int32) (La : lT), x16 = (if v6 < x28 then x28 else v6) → Pc (fX12_term_p154 fu k57 p2 p3 p4 (v5 + x28) v7 v8 x16 g29 La) (fun x g1 _ => g1 0 0 = d 0 0 ∧ ∃ z a b c, TT cs n d l p1 D z a b c ∧ x = if p4 = 0 then a else if p4 = 1 then b else c) := by
      intro x16 La h16
      unfold fX12_term_p154 fX12_term_p171
      refine pc_cb (late_m (d := g29) (fun _ _ => rfl) hl) (fun x33 g34 L35 e33 => ?_)
      obtain ⟨rfl, e33⟩ := e33
      rw [ek29 2 (by decide) (by omega)] at e33
      have td : TD cs n d (rns d (g' 0 80)) l x28 x33 := ⟨_, _, _, _, _, mk, dy, q2, e33⟩
      have fin2 : ∀ (t : Int32) (Lb : lT), t = (if x33 ≤ 0 then 0 else 1) → Pc (lti (v7 + t) (fun x37 => k57 (v5 + x28, x16, x37, (v8 + 1), g34, Lb))) (fun x g1 _ => g1 0 0 = d 0 0 ∧ ∃ z a b c, TT cs n d l p1 D z a b c ∧ x = if p4 = 0 then a else if p4 = 1 then b else c) := fun t Lb ht' => pc_lti (fun x37 e37 => hk _ ⟨k + 1, ew, by omega, ek29, e29, ⟨_, _, _, _, _, _, ht, td, s29, rfl, h16, by rw [← ht']; exact e37⟩⟩)
      refine pc_ite (fun c2 => fin2 _ _ ?_) (fun c2 => fin2 _ _ ?_)
      · rw [if_pos c2]
      · rw [if_neg c2]
    refine pc_lti (fun x32 e32 => ?_)
    rw [e32]
    refine pc_ite (fun c2 => fin _ _ ?_) (fun c2 => fin _ _ ?_)
    · have c2 := ic_le.mp c2
      rw [if_neg (fun hh => by have := ic_lt.mp hh; omega)]
    · have c2 := icc_nle (m := x28.toInt) (n := v6.toInt) rfl rfl c2
      rw [if_pos (ic_lt.mpr c2)]
  have c1 := icc_nle e01 hi c1
  have ewi : (v9 + 1).toInt = ((i + 1 : Nat) : Int) := by rw [ic_addc hi (n := 1) rfl (by omega) (by omega)]; omega
  unfold fX12_term_p121
  have nob : rns d (g' 0 80) i → ∀ o, o < n → (tbi (g4 0 60) o = true ↔ (o < i + 1 ∧ ¬ rns d (g' 0 80) o)) := fun hr o ho =>
    (hb o ho).trans ⟨fun w => ⟨by omega, w.2⟩, fun w => ⟨by
      by_cases q : o = i
      · rw [q] at w; exact absurd hr w.2
      · omega, w.2⟩⟩
  have bit : ¬ rns d (g' 0 80) i → ∀ o, o < n → (tbi (g4 0 60 ||| ((1 : Int32) <<< (v9 &&& 31))) o = true ↔ (o < i + 1 ∧ ¬ rns d (g' 0 80) o)) := fun hr o ho => by
    rw [tb_or, vi, tb_s i (by omega) o (by omega)]
    by_cases q : i = o
    · rw [decide_eq_true q, Bool.or_true]
      exact ⟨fun _ => ⟨by omega, by rw [← q]; exact hr⟩, fun _ => rfl⟩
    · rw [decide_eq_false q, Bool.or_false]
      exact (hb o ho).trans ⟨fun w => ⟨by omega, w.2⟩, fun w => ⟨by omega, w.2⟩⟩
  rw [ei, ek4 7 (by decide) (by omega)]
  refine pc_ck (fun _ _ => pc_ite (fun c2 => hk2 _ ⟨i + 1, ewi, by omega, ek4, e04, ?_, nob (Or.inl c2)⟩) (fun c2 => pc_cb draw_m (fun x41 g42 L43 q => ?_)))
  · show g4 0 80 = if d 7 i = 10 then _ else _
    rw [if_pos c2]; exact es
  obtain ⟨q1, q2⟩ := q
  rw [es] at q1 q2
  have ek42 : ∀ k, k ≠ 0 → k < 29 → g42 k = d k := fun k a b => by rw [q1, ← ek4 k a b]; exact funext fun _ => upd2_nk a
  have e42 : ∀ j, j ≠ 60 → j ≠ 80 → g42 0 j = d 0 j := fun j a b => by rw [q1, upd2_nj b]; exact e04 j a b
  have s42 : g42 0 80 = sdd d (g' 0 80) (i + 1) := by
    show g42 0 80 = if d 7 i = 10 then _ else _
    rw [if_neg c2, q1, upd2_at]
  have z42 : g42 0 60 = g4 0 60 := by rw [q1, upd2_nj (by decide)]
  rw [ek42 7 (by decide) (by omega), q2]
  refine pc_ck (fun _ _ => pc_ite (fun c3 => hk2 _ ⟨i + 1, ewi, by omega, ek42, e42, s42, ?_⟩) (fun c3 => pc_st (fun g46 e46 => hk2 _ ⟨i + 1, ewi, by omega, fun k a b => ?_, fun j a b => ?_, ?_, ?_⟩)))
  · show ∀ o, o < n → (tbi (g42 0 60) o = true ↔ _)
    rw [z42]
    exact nob (Or.inr (fun hh => i32_nle c3 hh))
  · show g46 k = d k
    rw [e46, ← ek42 k a b]; exact funext fun _ => upd2_nk a
  · show g46 0 j = d 0 j
    rw [e46, upd2_nj a]; exact e42 j a b
  · show g46 0 80 = _
    rw [e46, upd2_nj (by decide)]; exact s42
  · show ∀ o, o < n → (tbi (g46 0 60) o = true ↔ _)
    rw [e46, upd2_at, z42]
    refine bit (fun hr => ?_)
    rcases hr with hr | hr
    · exact c2 hr
    · exact hr (i32_nlt c3)
theorem cr_term {fu : Nat} {p1 p2 p3 p4 : Int32} {g gm g1 g2 : gT} {L Lm L1 L2 : lT} {rx : Except String Int32} {rm : Int32} (hS : CS g gm) (e1 : fX11_term_0 fu p1 p2 p3 p4 g L = some (rx, (g1, L1))) (e2 : fX12_term fu p1 p2 p3 p4 gm Lm = some (rm, (g2, L2))) : (rx = .ok rm ∧ g2 0 0 = 0) ∨ (rx = .error NSE ∧ g2 0 0 = 1) ∨ (rx = .error IAE ∧ g2 0 0 = 2) := by
  have h := hS.1
  have hp := h.1.1
  have hI := hp.2.1
  obtain ⟨k1, -⟩ := hp.2.2.2.2.2.2.1
  have r1 := hI 0 1 0 12 rfl
  have a0 : upd2 gm 0 0 0 0 0 = 0 := upd2_at
  have a1 : upd2 gm 0 0 0 0 1 = gm 0 1 := rfl
  unfold fX11_term_0 at e1
  unfold fX12_term fX12_term_p38 at e2
  unfold sti at e2
  have e2 : cb (fX12_isLesson fu p3 (upd2 gm 0 0 0) Lm) _ = some (rm, (g2, L2)) := e2
  by_cases c1 : isL (gm 0 1) p3
  rotate_left
  · rw [xneed0 (by rw [k1]; exact c1)] at e1
    have e1 : some (.error NSE, (g, L)) = some (rx, (g1, L1)) := e1
    rw [lesson0 a0 (by rw [a1]; exact c1)] at e2
    have e2 : some ((0 : Int32), (upd2 (upd2 gm 0 0 0) 0 0 1, Lm)) = some (rm, (g2, L2)) := e2
    cases e1; cases e2
    exact Or.inr (Or.inl ⟨rfl, upd2_at⟩)
  rw [xneed1 (by rw [k1]; exact c1), cbxs] at e1
  rw [lesson1 a0 (by rw [a1]; exact c1), cbs, if_neg (by decide)] at e2
  have i3 : (3 : Int32).toInt = 3 := rfl
  have i2 : (2 : Int32).toInt = 2 := rfl
  by_cases c2 : 0 ≤ p4.toInt ∧ p4.toInt ≤ (2 : Int32).toInt
  rotate_left
  · rw [xwhat0 (fun hh => c2 (by omega))] at e1
    have e1 : some (.error NSE, (g, L)) = some (rx, (g1, L1)) := e1
    rw [what0 a0 c2] at e2
    have e2 : some ((0 : Int32), (upd2 (upd2 gm 0 0 0) 0 0 1, Lm)) = some (rm, (g2, L2)) := e2
    cases e1; cases e2
    exact Or.inr (Or.inl ⟨rfl, upd2_at⟩)
  rw [xwhat1 c2.1 (by omega), cbxs] at e1
  rw [what1 a0 c2.1 c2.2, cbs, if_neg (by decide)] at e2
  by_cases c3 : (0 : Int32).toInt ≤ p2.toInt ∧ p2.toInt ≤ (60 : Int32).toInt
  rotate_left
  · rw [xwith0 c3] at e1
    have e1 : some (.error IAE, (g, L)) = some (rx, (g1, L1)) := e1
    rw [within0 c3, cbs, right0 a0 (by decide), cbs, if_pos rfl] at e2
    cases e1; cases e2
    exact Or.inr (Or.inr ⟨rfl, upd2_at⟩)
  rw [xwith1 c3.1 c3.2, cbxs] at e1
  rw [within1 c3.1 c3.2, cbs, right1 a0, cbs, if_neg (by decide)] at e2
  have i0 : (0 : Int32).toInt = 0 := rfl
  have i60 : (60 : Int32).toInt = 60 := rfl
  have hl := l12 c1 r1.2
  obtain ⟨l, el⟩ : ∃ i : Nat, p3.toInt = (i : Int) := ⟨p3.toInt.toNat, by omega⟩
  obtain ⟨D, eD⟩ : ∃ i : Nat, p2.toInt = (i : Int) := ⟨p2.toInt.toNat, by omega⟩
  have nl : l < (gm 0 1).toInt.toNat := by have := c1.2; omega
  obtain ⟨xa, ga, La, ea, e1⟩ := cb_some e1
  cases e1
  obtain ⟨cs, hX, hM, -⟩ := dc_all h
  have hM := hM.d (e0_u (x := 0))
  have h7 : ∀ i, i < (gm 0 1).toInt.toNat → g (57 + i) 12 = upd2 gm 0 0 0 7 i := fun i hi => by
    rw [upd2_nk (by decide)]
    exact (h.1.2.1.1 i (by omega)).2.1.2.2.1
  obtain ⟨z, a, b, c, t1, t2⟩ := term_x (hX.d (e0_u (x := 0))) h7 el nl eD (by omega) _ _ _ ea
  have e2 : fX12_term_l57 fu p2 p3 p4 0 0 0 0 (upd2 (upd2 gm 0 0 0) 0 80 p1) Lm = some (rm, (g2, L2)) := e2
  obtain ⟨v0, z', a', b', c', w1, w2⟩ := term_m hM el nl eD (by omega) (fun k hk _ => funext fun _ => upd2_nk hk) (fun j _ hj => upd2_nj hj) upd2_at _ _ _ e2
  obtain ⟨-, rfl, rfl, rfl⟩ := TT.u hM.2.1 nl D t1 w1
  exact Or.inl ⟨by rw [t2, w2], by rw [v0]; exact a0⟩
