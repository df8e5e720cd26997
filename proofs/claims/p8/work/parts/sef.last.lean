/-! ===== last answers alike ===== -/
theorem upd2_2 {g : gT} {k j : Nat} {x y : Int32} : upd2 (upd2 g k j x) k j y = upd2 g k j y := by
  funext k' j'
  by_cases hk : k' = k
  · subst hk
    by_cases hj : j' = j
    · subst hj; rw [upd2_at, upd2_at]
    · rw [upd2_nj hj, upd2_nj hj, upd2_nj hj]
  · rw [upd2_nk hk, upd2_nk hk, upd2_nk hk]
theorem upd2_s {g : gT} {k j : Nat} : upd2 g k j (g k j) = g := by
  funext k' j'
  by_cases hk : k' = k
  · subst hk
    by_cases hj : j' = j
    · subst hj; rw [upd2_at]
    · rw [upd2_nj hj]
  · rw [upd2_nk hk]
/-- one entry of what is held changes, in both -/
theorem DC.put {cs : Nat → List Int} {n q l : Nat} {v : Int32} {g d : gT} (h : DC cs n g d) (hq : q ≤ 3) (hl : l < 12) (hv : q = 2 → 0 ≤ v.toInt ∧ v.toInt ≤ 9) : DC cs n (upd2 g (25 + q) l v) (upd2 d 12 (12 * q + l) v) := by
  obtain ⟨a1, a3, a4, a5, a6, a7, a8, a9, a10⟩ := h
  have n12 := a1.2
  have ek : ∀ k, (k < 25 ∨ 28 < k) → upd2 g (25 + q) l v k = g k := fun k hk => funext fun _ => upd2_nk (by omega)
  have dk : ∀ k, k ≠ 12 → upd2 d 12 (12 * q + l) v k = d k := fun k hk => funext fun _ => upd2_nk hk
  refine ⟨by rw [ek 1 (by omega)]; exact a1, fun i hi => ⟨(a3 i hi).1.c (ek _ (by omega)) (ek _ (by omega)) (fun k x y => dk k (by omega)), hc_put (a3 i hi).2 (by omega) hl hq (fun _ _ _ => rfl) rfl⟩, ?_, wf_e a5 (dk 5 (by decide)) (dk 6 (by decide)) (dk 8 (by decide)) (dk 9 (by decide)), fun i hi => ⟨?_, ?_⟩, ?_, ?_, ?_, ?_⟩
  · rw [ek 1 (by omega), dk 0 (by decide)]; exact a4
  · by_cases e : 24 + i = 12 * q + l
    · rw [e, upd2_at]; exact hv (by omega)
    · rw [upd2_nj e]; exact (a6 i hi).1
  · rw [dk 8 (by decide)]; exact (a6 i hi).2
  · rw [ek 6 (by omega), ek 3 (by omega), dk 0 (by decide)]; exact a7
  · rw [ek 3 (by omega), ek 20 (by omega), ek 19 (by omega)]; exact a8
  · rw [ek 8 (by omega), dk 0 (by decide)]; exact a9
  · rw [ek 8 (by omega), dk 0 (by decide)]; exact a10
theorem MD.put {cs : Nat → List Int} {n j : Nat} {v : Int32} {d : gT} (h : MD cs n d) : MD cs n (upd2 d 12 j v) := by
  have dk : ∀ k, k ≠ 12 → upd2 d 12 j v k = d k := fun k hk => funext fun _ => upd2_nk hk
  unfold MD WF
  rw [dk 0 (by decide), dk 5 (by decide), dk 6 (by decide), dk 8 (by decide), dk 9 (by decide), dk 10 (by decide), dk 11 (by decide)]
  exact h
theorem Em.put {d g : gT} {j : Nat} {v : Int32} (e : Em d g) : Em (upd2 d 12 j v) (upd2 g 12 j v) := by
  intro k hk
  by_cases h0 : k = 12
  · subst h0; rw [upd2_k, upd2_k, e 12 (by omega)]
  · funext j; rw [upd2_nk h0, upd2_nk h0, e k hk]
/-- what is lost if two do not run over -/
theorem lw_x {cs : Nat → List Int} {n a b fu : Nat} {p1 p2 : Int32} {g d : gT} {L : lT} (h : DC cs n g d) (ha : p1.toInt = (a : Int)) (hb : p2.toInt = (b : Int)) (a12 : a < 12) (b12 : b < 12) : Pc (fX10_lostWithout_9 fu p1 p2 g L) (fun x g1 _ => LV cs n (upd2 (upd2 d 12 a 0) 12 b 0) x ∧ ∀ k, k ≠ 21 → (k < 43 ∨ 48 < k) → g1 k = g k) := by
  have ea : p1.toNatClampNeg = a := by rw [nc, ha]; omega
  have eb : p2.toNatClampNeg = b := by rw [nc, hb]; omega
  unfold fX10_lostWithout_9
  rw [ea, eb]
  have hD : DC cs n (upd2 (upd2 g 25 a 0) 25 b 0) (upd2 (upd2 d 12 a 0) 12 b 0) := by
    have x := (h.put (q := 0) (l := a) (v := 0) (by decide) a12 (fun e => absurd e (by decide))).put (q := 0) (l := b) (v := 0) (by decide) b12 (fun e => absurd e (by decide))
    rw [show 12 * 0 + a = a by omega, show 12 * 0 + b = b by omega] at x
    exact x
  refine pc_ck (fun _ _ => pc_lti (fun x1 e1 => pc_ck (fun _ _ => pc_lti (fun x2 e2 => pc_ck (fun _ _ => pc_st (fun g3 e3 => pc_ck (fun _ _ => pc_st (fun g4 e4 => pc_cb (lv_x (cs := cs) (n := n) (d := upd2 (upd2 d 12 a 0) 12 b 0) (by rw [e4, e3]; exact hD)) (fun x5 g6 L7 e6 => pc_ck (fun _ _ => pc_st (fun g9 e9 => pc_ck (fun _ _ => pc_st (fun g10 e10 => pc_some ⟨e6.1, fun k h1 h2 => ?_⟩)))))))))))))
  by_cases hk : k = 25
  · subst hk
    funext j
    rw [e10]
    by_cases jb : j = b
    · subst jb; rw [upd2_at, e2]
    · rw [upd2_nj jb, e9]
      by_cases ja : j = a
      · subst ja; rw [upd2_at, e1]
      · rw [upd2_nj ja, e6.2 25 (by decide) (by omega), e4, upd2_nj jb, e3, upd2_nj ja]
  · funext j
    rw [e10, upd2_nk hk, e9, upd2_nk hk, e6.2 k h1 h2, e4, upd2_nk hk, e3, upd2_nk hk]
def PL (cs : Nat → List Int) (n : Nat) (d : gT) (r : Int) (v : Int32) : Prop := LV cs n (upd2 d 12 r.toNat 0) v
theorem PL.f {cs : Nat → List Int} {n : Nat} {d : gT} (hW : WF n d) : ∀ r v v', PL cs n d r v → PL cs n d r v' → v = v' := fun r v v' h h' => LV.u (wf_e hW (funext fun _ => upd2_nk (by decide)) (funext fun _ => upd2_nk (by decide)) (funext fun _ => upd2_nk (by decide)) (funext fun _ => upd2_nk (by decide))) h h'
theorem last_x {cs : Nat → List Int} {n fu : Nat} {g d : gT} {L : lT} (h : DC cs n g d) : Pc (fX10_withoutOne_9 fu g L) (fun x _ _ => ((n = 0 ∧ x = -1) ∨ (0 < n ∧ AM (PL cs n d) 0 (n : Int) x.toInt)) ∧ ∀ r, 0 ≤ r → r < (n : Int) → ∃ w, PL cs n d r w) := by
  unfold fX10_withoutOne_9
  refine pc_cb clear_x (fun x1 g2 L3 e2 => ?_)
  unfold fX10_withoutOne_9_l9
  have hW := h.2.2.2.1
  have hn := h.1
  refine pc_loop (fun v => ∃ m : Nat, v.1.toInt = (m : Int) ∧ m ≤ n ∧ (∀ k, k ≠ 13 → k ≠ 21 → (k < 43 ∨ 48 < k) → v.2.1 k = g k) ∧ LK (PL cs n d) 0 (m : Int) v.2.1 ∧ ∀ r, 0 ≤ r → r < (m : Int) → ∃ w, PL cs n d r w) (fun k9 hk v hv => ?_) ⟨0, rfl, by omega, fun k a _ _ => e2.2 k a, Or.inl ⟨rfl, e2.1⟩, fun r a b => by omega⟩
  obtain ⟨v1, g', L'⟩ := v
  obtain ⟨m, hm, m2, ek, hl, ex⟩ := hv
  replace hm : v1.toInt = (m : Int) := hm
  replace ek : ∀ k, k ≠ 13 → k ≠ 21 → (k < 43 ∨ 48 < k) → g' k = g k := ek
  replace hl : LK (PL cs n d) 0 (m : Int) g' := hl
  show Pc (fX10_withoutOne_9_s9 fu k9 v1 g' L') _
  unfold fX10_withoutOne_9_s9 fX10_lessonCount_9
  rw [ek 1 (by decide) (by decide) (by omega), cbs]
  refine pc_ite (fun c => ?_) (fun c => ?_)
  · have c := icc_le hn.1 hm c
    have em : m = n := by omega
    subst em
    unfold fX4_told_13 fX4_told_13_p24
    rcases hl with ⟨l1, l2⟩ | ⟨l1, l2, -, l4⟩
    · rw [if_pos l2, cbs]
      exact pc_some ⟨Or.inl ⟨by omega, rfl⟩, ex⟩
    · rw [if_neg l2, if_pos rfl, cbs]
      exact pc_some ⟨Or.inr ⟨by omega, l4⟩, ex⟩
  · have c := icc_nle hn.1 hm c
    refine pc_cb (lw_x (h.c2 ek) hm hm (by omega) (by omega)) (fun x10 g11 L12 e10 => ?_)
    have pm : PL cs n d (m : Int) x10 := by
      have := e10.1
      rw [upd2_2] at this
      exact this
    have hl' : LK (PL cs n d) 0 (m : Int) g11 := by
      unfold LK; rw [e10.2 13 (by decide) (by omega)]; exact hl
    refine pc_cb (offer_x (PL.f hW) hm hl' pm) (fun x14 g15 L16 e15 => hk _ ⟨m + 1, ?_, by omega, fun k a b c => ?_, ?_, fun r a b => ?_⟩)
    · show (v1 + 1).toInt = _
      rw [ic_addc hm (n := 1) rfl (by omega) (by omega)]; omega
    · show g15 k = g k
      rw [e15.2 k a, e10.2 k b c, ek k a b c]
    · show LK (PL cs n d) 0 ((m + 1 : Nat) : Int) g15
      rw [show ((m + 1 : Nat) : Int) = (m : Int) + 1 by omega]; exact e15.1
    · rcases (by omega : r < (m : Int) ∨ r = (m : Int)) with e | e
      · exact ex r a e
      · exact ⟨x10, by rw [e]; exact pm⟩
theorem last_m {cs : Nat → List Int} {n fu : Nat} {d : gT} {L : lT} (hM : MD cs n d) : Pc (fX12_last_l11 fu (-1) 0 0 d L) (fun x _ _ => (n = 0 ∧ x = -1) ∨ (0 < n ∧ AM (PL cs n d) 0 (n : Int) x.toInt)) := by
  unfold fX12_last_l11
  have hW := hM.2.1
  have n12 := hM.1.2
  refine pc_loop (fun v => ∃ m : Nat, v.2.2.1.toInt = (m : Int) ∧ m ≤ n ∧ Em d v.2.2.2.1 ∧ ((m = 0 ∧ v.1 = -1) ∨ (0 < m ∧ AM (PL cs n d) 0 (m : Int) v.1.toInt ∧ PL cs n d v.1.toInt v.2.1))) (fun k hk v hv => ?_) ⟨0, rfl, by omega, fun _ _ => rfl, Or.inl ⟨rfl, rfl⟩⟩
  obtain ⟨v1, v2, v3, g', L'⟩ := v
  obtain ⟨m, hm, m2, e, hl⟩ := hv
  replace hm : v3.toInt = (m : Int) := hm
  replace e : Em d g' := e
  replace hl : (m = 0 ∧ v1 = -1) ∨ (0 < m ∧ AM (PL cs n d) 0 (m : Int) v1.toInt ∧ PL cs n d v1.toInt v2) := hl
  show Pc (fX12_last_s11 fu k v1 v2 v3 g' L') _
  unfold fX12_last_s11 fX12_last_p68 fX12_last_p73
  have e01 : (g' 0 1).toInt = (n : Int) := by rw [e 0 (by omega)]; exact hM.1.1
  have e0 : (0 + v3).toNatClampNeg = m := by rw [nc, ic_addc (m := 0) rfl hm (by omega) (by omega)]; omega
  refine pc_ite (fun c => pc_some ?_) (fun c => ?_)
  · have c := icc_le e01 hm c
    have em : m = n := by omega
    subst em
    rcases hl with ⟨a, b⟩ | ⟨a, b, -⟩
    · exact Or.inl ⟨a, b⟩
    · exact Or.inr ⟨a, b⟩
  have c := icc_nle e01 hm c
  have ew : (v3 + 1).toInt = ((m + 1 : Nat) : Int) := by rw [ic_addc hm (n := 1) rfl (by omega) (by omega)]; omega
  have ei : ((m + 1 : Nat) : Int) = (m : Int) + 1 := by omega
  rw [e0]
  refine pc_ck (fun _ _ => pc_lti (fun x3 e3 => pc_ck (fun _ _ => pc_st (fun g4 e4 => pc_cb (lv_m (cs := cs) (n := n) (by rw [e4]; exact (hM.e e).put)) (fun x5 g6 L7 e6 => pc_ck (fun _ _ => pc_st (fun g9 e9 => ?_)))))))
  have p5 : PL cs n d (m : Int) x5 := by
    have := e6.1
    rw [e4] at this
    exact this.e e.put
  have e9' : Em d g9 := by
    intro k' hk'
    rw [← e k' hk', e9]
    by_cases h0 : k' = 12
    · subst h0
      rw [upd2_k, e6.2 12 (by omega), e4, upd2_k, e3]
      funext j
      by_cases hj : j = m
      · rw [hj, upd_at]
      · rw [upd_ne hj, upd_ne hj]
    · funext j
      rw [upd2_nk h0, e6.2 k' hk', e4, upd2_nk h0]
  have take : AM (PL cs n d) 0 ((m : Int) + 1) (m : Int) → Pc (k (v3, x5, (v3 + 1), g9, L7)) (fun x _ _ => (n = 0 ∧ x = -1) ∨ (0 < n ∧ AM (PL cs n d) 0 (n : Int) x.toInt)) := by
    intro ha
    refine hk _ ⟨m + 1, ew, by omega, e9', Or.inr ⟨by omega, ?_, ?_⟩⟩
    · show AM (PL cs n d) 0 ((m + 1 : Nat) : Int) v3.toInt
      rw [ei, hm]; exact ha
    · show PL cs n d v3.toInt x5
      rw [hm]; exact p5
  rcases hl with ⟨a, b⟩ | ⟨a, b, b'⟩
  · rw [if_pos b]
    refine take ?_
    rw [a]; exact AM.one (m := 0) (PL.f hW)
  · have nm : ¬ v1 = -1 := fun ee => by
      have := b.1
      rw [ee] at this
      exact absurd this (by decide)
    rw [if_neg nm]
    refine pc_ite (fun c1 => take (b.new (PL.f hW) b' p5 (ic_lt.mp c1))) (fun c1 => hk _ ⟨m + 1, ew, by omega, e9', Or.inr ⟨by omega, ?_, b'⟩⟩)
    show AM (PL cs n d) 0 ((m + 1 : Nat) : Int) v1.toInt
    rw [ei]
    exact b.keep (PL.f hW) b' p5 (icc_nlt (m := x5.toInt) (n := v2.toInt) rfl rfl c1)
theorem cr_last {fu : Nat} {g gm g1 g2 : gT} {L Lm L1 L2 : lT} {rx rm : Int32} (h : CR g gm) (e1 : fX11_last_0 fu g L = some (rx, (g1, L1))) (e2 : fX12_last fu gm Lm = some (rm, (g2, L2))) : rx = rm := by
  obtain ⟨cs, hX, hM, -⟩ := dc_all h
  unfold fX11_last_0 at e1
  unfold fX12_last sti at e2
  obtain ⟨xa, ga, La, ea, e1⟩ := cb_some e1
  cases e1
  obtain ⟨u1, u2⟩ := last_x (hX.d (e0_u (x := 0))) _ _ _ ea
  have v := last_m (hM.d (e0_u (x := 0))) _ _ _ e2
  rcases u1 with ⟨a, b⟩ | ⟨a, b⟩
  · rcases v with ⟨-, b'⟩ | ⟨a', -⟩
    · rw [b, b']
    · omega
  · rcases v with ⟨a', -⟩ | ⟨-, b'⟩
    · omega
    · exact ic_eq.mpr (AM.u u2 b b')
