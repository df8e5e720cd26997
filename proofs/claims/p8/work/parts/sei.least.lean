/-! ===== room and limit answer alike ===== -/
def PV (cs : Nat → List Int) (n : Nat) (d : gT) (j : Nat) (r : Int) (v : Int32) : Prop := LV cs n (upd2 d 12 j (Int32.ofInt r)) v
theorem wf_p {n j : Nat} {d : gT} {v : Int32} (hW : WF n d) : WF n (upd2 d 12 j v) := wf_e hW (funext fun _ => upd2_nk (by decide)) (funext fun _ => upd2_nk (by decide)) (funext fun _ => upd2_nk (by decide)) (funext fun _ => upd2_nk (by decide))
theorem PV.f {cs : Nat → List Int} {n j : Nat} {d : gT} (hW : WF n d) : ∀ r v v', PV cs n d j r v → PV cs n d j r v' → v = v' := fun r v v' h h' => LV.u (wf_p hW) h h'
theorem putq_x {q l fu : Nat} {p1 p2 p3 : Int32} {g : gT} {L : lT} (hq : p1.toInt = (q : Int)) (q3 : q ≤ 3) (hl : p2.toInt = (l : Int)) : Pc (fX3_put_6 fu p1 p2 p3 g L) (fun _ g1 _ => g1 = upd2 g (25 + q) l p3) := by
  have el : p2.toNatClampNeg = l := by rw [nc, hl]; omega
  have eq : p1.toInt.toNat = q := by omega
  unfold fX3_put_6
  rw [row_q (by omega) (by omega), cbs, el, eq]
  exact pc_ckr (fun _ _ => pc_ck (fun _ _ => pc_st (fun g1 e => pc_some e)))
theorem put_c {g g' : gT} {k0 l : Nat} {u v : Int32} {k : Nat} (e : g' k = upd2 g k0 l u k) : upd2 g' k0 l v k = upd2 g k0 l v k := by
  by_cases hk : k = k0
  · subst hk
    rw [upd2_k, upd2_k, e, upd2_k]
    funext j
    by_cases hj : j = l
    · rw [hj, upd_at, upd_at]
    · rw [upd_ne hj, upd_ne hj, upd_ne hj]
  · funext j
    rw [upd2_nk hk, e, upd2_nk hk, upd2_nk hk]
theorem lb_x {cs : Nat → List Int} {n q l most fu : Nat} {p1 p2 p3 : Int32} {g d : gT} {L : lT} (h : DC cs n g d) (hq : p1.toInt = (q : Int)) (hm : (q = 2 ∧ most = 9) ∨ (q = 3 ∧ most = 99)) (hl : p2.toInt = (l : Int)) (ln : l < n) : Pc (fX10_leastBy_9 fu p1 p2 p3 g L) (fun x _ _ => ∃ c w, AM (PV cs n d (12 * q + l)) 0 ((most : Int) + 1) c ∧ PV cs n d (12 * q + l) c w ∧ (∀ r, 0 ≤ r → r < (most : Int) + 1 → ∃ w, PV cs n d (12 * q + l) r w) ∧ (p3 = 0 → x.toInt = c) ∧ (¬ p3 = 0 → x = w)) := by
  have hW := h.2.2.2.1
  have n12 := h.1.2
  have q3 : q ≤ 3 := by omega
  have l12' : l < 12 := by omega
  have mo : ∀ fu' g' L', fX11_mostOf fu' p1 g' L' = some (Int32.ofInt (most : Int), (g', L')) := by
    intro fu' g' L'
    unfold fX11_mostOf
    rcases hm with ⟨rfl, rfl⟩ | ⟨rfl, rfl⟩
    · rw [if_neg (by omega), if_neg (by omega), if_pos (by omega)]; rfl
    · rw [if_neg (by omega), if_neg (by omega), if_neg (by omega)]; rfl
  have moi : (Int32.ofInt (most : Int)).toInt = (most : Int) := by
    rcases hm with ⟨-, rfl⟩ | ⟨-, rfl⟩ <;> rfl
  unfold fX10_leastBy_9
  refine pc_cb (P := fun _ g1 _ => g1 = g) (by
    unfold fX3_value_6
    rw [row_q (by omega) (by omega), cbs]
    exact pc_ckr (fun _ _ => pc_ck (fun _ _ => pc_some rfl))) (fun x1 g2 L3 e2 => ?_)
  subst e2
  refine pc_cb (rf_x h (f := 0) rfl (Nat.zero_le _)) (fun _ g6 L7 e6 => pc_cb clear_x (fun _ g10 L11 e10 => ?_))
  unfold fX10_leastBy_9_l29
  have gq : g2 (25 + q) l = d 12 (12 * q + l) := hc_at (h.2.1 l ln).2 q3
  refine pc_loop (fun v => ∃ m : Nat, v.1.toInt = (m : Int) ∧ m ≤ most + 1 ∧ (∃ u : Int32, (∀ k, k ≠ 13 → k ≠ 21 → (k < 43 ∨ 48 < k) → v.2.1 k = upd2 g2 (25 + q) l u k) ∧ DY cs (upd2 d 12 (12 * q + l) u) n (v.2.1 43) (v.2.1 44) (v.2.1 45) (v.2.1 46)) ∧ LK (PV cs n d (12 * q + l)) 0 (m : Int) v.2.1 ∧ ∀ r, 0 ≤ r → r < (m : Int) → ∃ w, PV cs n d (12 * q + l) r w) (fun k29 hk v hv => ?_) ⟨0, rfl, by omega, ⟨d 12 (12 * q + l), fun k a b c => ?_, ?_⟩, Or.inl ⟨rfl, e10.1⟩, fun r a b => by omega⟩
  rotate_left
  · show g10 k = _
    rw [← gq, upd2_s, e10.2 k a, e6.2.2 k b c]
  · show DY cs _ n (g10 43) (g10 44) (g10 45) (g10 46)
    rw [upd2_s, e10.2 43 (by decide), e10.2 44 (by decide), e10.2 45 (by decide), e10.2 46 (by decide)]
    exact fun i hi => e6.1 i (Nat.zero_le _) hi
  obtain ⟨v5, g', L'⟩ := v
  obtain ⟨m, hm5, mm, ⟨u, ek, hy⟩, hk13, ex⟩ := hv
  replace hm5 : v5.toInt = (m : Int) := hm5
  replace ek : ∀ k, k ≠ 13 → k ≠ 21 → (k < 43 ∨ 48 < k) → g' k = upd2 g2 (25 + q) l u k := ek
  replace hy : DY cs (upd2 d 12 (12 * q + l) u) n (g' 43) (g' 44) (g' 45) (g' 46) := hy
  replace hk13 : LK (PV cs n d (12 * q + l)) 0 (m : Int) g' := hk13
  show Pc (fX10_leastBy_9_s29 fu p1 p2 p3 x1 k29 v5 g' L') _
  unfold fX10_leastBy_9_s29
  rw [mo, cbs]
  refine pc_ite (fun c => ?_) (fun c => ?_)
  · have c := icc_lt moi hm5 c
    have em : (m : Int) = (most : Int) + 1 := by omega
    refine pc_cb (putq_x hq q3 hl) (fun _ g19 L20 e19 => ?_)
    have k13 : g19 13 = g' 13 := by rw [e19]; exact funext fun _ => upd2_nk (by omega)
    rw [em] at hk13 ex
    rcases hk13 with ⟨l1, -⟩ | ⟨-, l2, l3, l4⟩
    · omega
    · unfold fX4_told_13 fX4_told_13_p24
      rw [k13, if_neg l2]
      by_cases c0 : p3 = 0
      · rw [if_pos c0, cbs]
        exact pc_some ⟨_, _, l4, l3, ex, fun _ => rfl, fun hh => absurd c0 hh⟩
      · rw [if_neg c0, cbs]
        exact pc_some ⟨_, _, l4, l3, ex, fun hh => absurd hh c0, fun _ => rfl⟩
  · have c := icc_nlt moi hm5 c
    have v5i : Int32.ofInt (m : Int) = v5 := by rw [← hm5]; exact io_i
    refine pc_cb (putq_x hq q3 hl) (fun _ g27 L28 e27 => ?_)
    have f27 : ∀ k, k ≠ 13 → k ≠ 21 → (k < 43 ∨ 48 < k) → g27 k = upd2 g2 (25 + q) l v5 k := fun k a b c => by
      rw [e27]; exact put_c (ek k a b c)
    have o27 : ∀ k, (k < 25 ∨ 28 < k) → g27 k = g' k := fun k hk => by rw [e27]; exact funext fun _ => upd2_nk (by omega)
    have hD : DC cs n g27 (upd2 d 12 (12 * q + l) v5) := (h.put (v := v5) q3 l12' (fun e => by omega)).c2 f27
    have de : DE l (upd2 d 12 (12 * q + l) u) (upd2 d 12 (12 * q + l) v5) := ⟨fun k hk => by funext j; rw [upd2_nk hk, upd2_nk hk], fun x p a b _ => by rw [upd2_nj (by omega), upd2_nj (by omega)]⟩
    refine pc_cb (lf_x hD hl (by omega)) (fun x30 g31 L32 e31 => ?_)
    have dy : DY cs (upd2 d 12 (12 * q + l) v5) n (g31 43) (g31 44) (g31 45) (g31 46) := rf_dy (g := g27) de (wf_p hW) (wf_p hW) n12 (by rw [o27 43 (by omega), o27 44 (by omega), o27 45 (by omega), o27 46 (by omega)]; exact hy) e31.1
    have pm : PV cs n d (12 * q + l) (m : Int) x30 := by
      unfold PV; rw [v5i]
      exact ⟨_, _, _, _, dy, e31.2⟩
    have k13 : g31 13 = g' 13 := by rw [e31.1.2.2 13 (by decide) (by omega), o27 13 (by omega)]
    have hl' : LK (PV cs n d (12 * q + l)) 0 (m : Int) g31 := by unfold LK; rw [k13]; exact hk13
    refine pc_cb (offer_x (PV.f hW) hm5 hl' pm) (fun _ g35 L36 e35 => hk _ ⟨m + 1, ?_, by omega, ⟨v5, fun k a b c => ?_, ?_⟩, ?_, fun r a b => ?_⟩)
    · show (v5 + 1).toInt = _
      rw [ic_addc hm5 (n := 1) rfl (by omega) (by omega)]; omega
    · show g35 k = _
      rw [e35.2 k a, e31.1.2.2 k b c, f27 k a b c]
    · show DY cs _ n (g35 43) (g35 44) (g35 45) (g35 46)
      rw [e35.2 43 (by decide), e35.2 44 (by decide), e35.2 45 (by decide), e35.2 46 (by decide)]
      exact dy
    · show LK _ 0 ((m + 1 : Nat) : Int) g35
      rw [show ((m + 1 : Nat) : Int) = (m : Int) + 1 by omega]; exact e35.1
    · rcases (by omega : r < (m : Int) ∨ r = (m : Int)) with e | e
      · exact ex r a e
      · exact ⟨x30, by rw [e]; exact pm⟩
theorem bo_m {cs : Nat → List Int} {n j most fu : Nat} {p1 p2 p3 : Int32} {d : gT} {L : lT} (hM : MD cs n d) (hj : p1.toInt = (j : Int)) (hm : p2.toInt = (most : Int)) (m99 : most ≤ 99) : Pc (fX12_bestOf fu p1 p2 p3 d L) (fun x g1 _ => g1 0 = d 0 ∧ ∃ c w, AM (PV cs n d j) 0 ((most : Int) + 1) c ∧ PV cs n d j c w ∧ (p3 = 0 → x.toInt = c) ∧ (¬ p3 = 0 → x = w)) := by
  have hW := hM.2.1
  have ej : p1.toNatClampNeg = j := by rw [nc, hj]; omega
  unfold fX12_bestOf
  refine pc_ck (fun _ _ => pc_lti (fun x1 e1 => ?_))
  unfold fX12_bestOf_l17
  refine pc_loop (fun v => ∃ m : Nat, v.2.2.1.toInt = (m : Int) ∧ m ≤ most + 1 ∧ (∃ u : Int32, Em (upd2 d 12 j u) v.2.2.2.1) ∧ ((m = 0 ∧ v.1 = -1) ∨ (0 < m ∧ AM (PV cs n d j) 0 (m : Int) v.1.toInt ∧ PV cs n d j v.1.toInt v.2.1))) (fun k hk v hv => ?_) ⟨0, rfl, by omega, ⟨d 12 j, by rw [upd2_s]; exact fun _ _ => rfl⟩, Or.inl ⟨rfl, rfl⟩⟩
  obtain ⟨v5, v6, v7, g', L'⟩ := v
  obtain ⟨m, hm7, mm, ⟨u, e⟩, hl⟩ := hv
  replace hm7 : v7.toInt = (m : Int) := hm7
  replace e : Em (upd2 d 12 j u) g' := e
  replace hl : (m = 0 ∧ v5 = -1) ∨ (0 < m ∧ AM (PV cs n d j) 0 (m : Int) v5.toInt ∧ PV cs n d j v5.toInt v6) := hl
  show Pc (fX12_bestOf_s17 fu p1 p2 p3 x1 k v5 v6 v7 g' L') _
  unfold fX12_bestOf_s17 fX12_bestOf_p53 fX12_bestOf_p61 fX12_bestOf_p86
  rw [ej]
  have g0 : g' 0 = d 0 := (e 0 (by omega)).trans (funext fun _ => upd2_nk (by decide))
  refine pc_ite (fun c => pc_ck (fun _ _ => pc_st (fun g3 e3 => ?_))) (fun c => ?_)
  · have c := icc_lt hm hm7 c
    have em : (m : Int) = (most : Int) + 1 := by omega
    have z0 : g3 0 = d 0 := by rw [e3, ← g0]; exact funext fun _ => upd2_nk (by decide)
    rw [em] at hl
    rcases hl with ⟨a, -⟩ | ⟨-, a, b⟩
    · omega
    · refine pc_ite (fun c0 => pc_some ⟨z0, _, _, a, b, fun _ => rfl, fun hh => absurd c0 hh⟩) (fun c0 => pc_some ⟨z0, _, _, a, b, fun hh => absurd hh c0, fun _ => rfl⟩)
  · have c := icc_nlt hm hm7 c
    have v7i : Int32.ofInt (m : Int) = v7 := by rw [← hm7]; exact io_i
    have ei : ((m + 1 : Nat) : Int) = (m : Int) + 1 := by omega
    have ew : (v7 + 1).toInt = ((m + 1 : Nat) : Int) := by rw [ic_addc hm7 (n := 1) rfl (by omega) (by omega)]; omega
    refine pc_ck (fun _ _ => pc_st (fun g5 e5 => ?_))
    have e5' : Em (upd2 d 12 j v7) g5 := by
      have := e.put (j := j) (v := v7)
      rw [upd2_2] at this
      rw [e5]; exact this
    have hM5 : MD cs n g5 := (hM.put (j := j) (v := v7)).e e5'
    refine pc_cb (lv_m hM5) (fun x6 g7 L8 e7 => ?_)
    have p6 : PV cs n d j (m : Int) x6 := by unfold PV; rw [v7i]; exact e7.1.e e5'
    have e7' : Em (upd2 d 12 j v7) g7 := fun k hk => (e7.2 k hk).trans (e5' k hk)
    have take : AM (PV cs n d j) 0 ((m : Int) + 1) (m : Int) → Pc (k (v7, x6, (v7 + 1), g7, L8)) (fun x g1 _ => g1 0 = d 0 ∧ ∃ c w, AM (PV cs n d j) 0 ((most : Int) + 1) c ∧ PV cs n d j c w ∧ (p3 = 0 → x.toInt = c) ∧ (¬ p3 = 0 → x = w)) := by
      intro ha
      refine hk _ ⟨m + 1, ew, by omega, ⟨v7, e7'⟩, Or.inr ⟨by omega, ?_, ?_⟩⟩
      · show AM _ 0 ((m + 1 : Nat) : Int) v7.toInt
        rw [ei, hm7]; exact ha
      · show PV cs n d j v7.toInt x6
        rw [hm7]; exact p6
    rcases hl with ⟨a, b⟩ | ⟨a, b, b'⟩
    · rw [if_pos b]
      refine take ?_
      rw [a]; exact AM.one (m := 0) (PV.f hW)
    · rw [if_neg (fun ee => by
        have := b.1
        rw [ee] at this
        exact absurd this (by decide))]
      refine pc_ite (fun c1 => take (b.new (PV.f hW) b' p6 (ic_lt.mp c1))) (fun c1 => hk _ ⟨m + 1, ew, by omega, ⟨v7, e7'⟩, Or.inr ⟨by omega, ?_, b'⟩⟩)
      show AM _ 0 ((m + 1 : Nat) : Int) v5.toInt
      rw [ei]
      exact b.keep (PV.f hW) b' p6 (icc_nlt (m := x6.toInt) (n := v6.toInt) rfl rfl c1)
theorem lb_e {P : Int → Int32 → Prop} {hi : Int} {p3 x y : Int32} (fP : ∀ r v v', P r v → P r v' → v = v') (h1 : ∃ c w, AM P 0 hi c ∧ P c w ∧ (∀ r, 0 ≤ r → r < hi → ∃ w, P r w) ∧ (p3 = 0 → x.toInt = c) ∧ (¬ p3 = 0 → x = w)) (h2 : ∃ c w, AM P 0 hi c ∧ P c w ∧ (p3 = 0 → y.toInt = c) ∧ (¬ p3 = 0 → y = w)) : x = y := by
  obtain ⟨c, w, a1, a2, a3, a4, a5⟩ := h1
  obtain ⟨c', w', b1, b2, b4, b5⟩ := h2
  obtain rfl := AM.u a3 a1 b1
  obtain rfl := fP c w w' a2 b2
  by_cases c0 : p3 = 0
  · exact ic_eq.mpr ((a4 c0).trans (b4 c0).symm)
  · rw [a5 c0, b5 c0]
theorem cr_room {fu : Nat} {p1 p2 : Int32} {g gm g1 g2 : gT} {L Lm L1 L2 : lT} {rx : Except String Int32} {rm : Int32} (h : CR g gm) (e1 : fX11_room_0 fu p1 p2 g L = some (rx, (g1, L1))) (e2 : fX12_room fu p1 p2 gm Lm = some (rm, (g2, L2))) : (rx = .ok rm ∧ g2 0 0 = 0) ∨ (rx = .error NSE ∧ g2 0 0 = 1) := by
  have hp := h.1.1
  have hI := hp.2.1
  obtain ⟨k1, -⟩ := hp.2.2.2.2.2.2.1
  have r1 := hI 0 1 0 12 rfl
  have a0 : upd2 gm 0 0 0 0 0 = 0 := upd2_at
  have a1 : upd2 gm 0 0 0 0 1 = gm 0 1 := rfl
  unfold fX11_room_0 at e1
  unfold fX12_room fX12_room_p36 fX12_room_p37 at e2
  unfold sti at e2
  have e2 : cb (fX12_isLesson fu p1 (upd2 gm 0 0 0) Lm) _ = some (rm, (g2, L2)) := e2
  by_cases c1 : isL (gm 0 1) p1
  rotate_left
  · rw [xneed0 (by rw [k1]; exact c1)] at e1
    have e1 : some (.error NSE, (g, L)) = some (rx, (g1, L1)) := e1
    rw [lesson0 a0 (by rw [a1]; exact c1)] at e2
    have e2 : some ((0 : Int32), (upd2 (upd2 gm 0 0 0) 0 0 1, Lm)) = some (rm, (g2, L2)) := e2
    cases e1; cases e2
    exact Or.inr ⟨rfl, upd2_at⟩
  rw [xneed1 (by rw [k1]; exact c1), cbxs] at e1
  rw [lesson1 a0 (by rw [a1]; exact c1), cbs, if_neg (by decide)] at e2
  have i1 : (1 : Int32).toInt = 1 := rfl
  have i2 : (2 : Int32).toInt = 2 := rfl
  by_cases c2 : 0 ≤ p2.toInt ∧ p2.toInt ≤ (1 : Int32).toInt
  rotate_left
  · rw [xwhat0 (fun hh => c2 (by omega))] at e1
    have e1 : some (.error NSE, (g, L)) = some (rx, (g1, L1)) := e1
    rw [what0 a0 c2] at e2
    have e2 : some ((0 : Int32), (upd2 (upd2 gm 0 0 0) 0 0 1, Lm)) = some (rm, (g2, L2)) := e2
    cases e1; cases e2
    exact Or.inr ⟨rfl, upd2_at⟩
  rw [xwhat1 c2.1 (by omega), cbxs] at e1
  rw [what1 a0 c2.1 c2.2, cbs, if_neg (by decide)] at e2
  have hl := l12 c1 r1.2
  obtain ⟨l, el⟩ : ∃ i : Nat, p1.toInt = (i : Int) := ⟨p1.toInt.toNat, by omega⟩
  have nl : l < (gm 0 1).toInt.toNat := by have := c1.2; omega
  obtain ⟨xa, ga, La, ea, e1⟩ := cb_some e1
  obtain ⟨xb, gb, Lb, eb, e2⟩ := cb_some e2
  cases e1; cases e2
  obtain ⟨cs, hX, hM, -⟩ := dc_all h
  have u := lb_x (q := 2) (most := 9) (hX.d (e0_u (x := 0))) rfl (by omega) el nl _ _ _ ea
  have v := bo_m (j := 12 * 2 + l) (most := 9) (hM.d (e0_u (x := 0))) (by rw [ic_addc (m := 24) rfl el (by omega) (by omega)]; omega) rfl (by decide) _ _ _ eb
  refine Or.inl ⟨?_, by rw [v.1]; exact a0⟩
  rw [lb_e (PV.f (hM.d (e0_u (x := 0))).2.1) u v.2]
theorem cr_limit {fu : Nat} {p1 p2 : Int32} {g gm g1 g2 : gT} {L Lm L1 L2 : lT} {rx : Except String Int32} {rm : Int32} (h : CR g gm) (e1 : fX11_limit_0 fu p1 p2 g L = some (rx, (g1, L1))) (e2 : fX12_limit fu p1 p2 gm Lm = some (rm, (g2, L2))) : (rx = .ok rm ∧ g2 0 0 = 0) ∨ (rx = .error NSE ∧ g2 0 0 = 1) := by
  have hp := h.1.1
  have hI := hp.2.1
  obtain ⟨k1, -⟩ := hp.2.2.2.2.2.2.1
  have r1 := hI 0 1 0 12 rfl
  have a0 : upd2 gm 0 0 0 0 0 = 0 := upd2_at
  have a1 : upd2 gm 0 0 0 0 1 = gm 0 1 := rfl
  unfold fX11_limit_0 at e1
  unfold fX12_limit fX12_limit_p36 fX12_limit_p37 at e2
  unfold sti at e2
  have e2 : cb (fX12_isLesson fu p1 (upd2 gm 0 0 0) Lm) _ = some (rm, (g2, L2)) := e2
  by_cases c1 : isL (gm 0 1) p1
  rotate_left
  · rw [xneed0 (by rw [k1]; exact c1)] at e1
    have e1 : some (.error NSE, (g, L)) = some (rx, (g1, L1)) := e1
    rw [lesson0 a0 (by rw [a1]; exact c1)] at e2
    have e2 : some ((0 : Int32), (upd2 (upd2 gm 0 0 0) 0 0 1, Lm)) = some (rm, (g2, L2)) := e2
    cases e1; cases e2
    exact Or.inr ⟨rfl, upd2_at⟩
  rw [xneed1 (by rw [k1]; exact c1), cbxs] at e1
  rw [lesson1 a0 (by rw [a1]; exact c1), cbs, if_neg (by decide)] at e2
  have i1 : (1 : Int32).toInt = 1 := rfl
  have i2 : (2 : Int32).toInt = 2 := rfl
  by_cases c2 : 0 ≤ p2.toInt ∧ p2.toInt ≤ (1 : Int32).toInt
  rotate_left
  · rw [xwhat0 (fun hh => c2 (by omega))] at e1
    have e1 : some (.error NSE, (g, L)) = some (rx, (g1, L1)) := e1
    rw [what0 a0 c2] at e2
    have e2 : some ((0 : Int32), (upd2 (upd2 gm 0 0 0) 0 0 1, Lm)) = some (rm, (g2, L2)) := e2
    cases e1; cases e2
    exact Or.inr ⟨rfl, upd2_at⟩
  rw [xwhat1 c2.1 (by omega), cbxs] at e1
  rw [what1 a0 c2.1 c2.2, cbs, if_neg (by decide)] at e2
  have hl := l12 c1 r1.2
  obtain ⟨l, el⟩ : ∃ i : Nat, p1.toInt = (i : Int) := ⟨p1.toInt.toNat, by omega⟩
  have nl : l < (gm 0 1).toInt.toNat := by have := c1.2; omega
  obtain ⟨xa, ga, La, ea, e1⟩ := cb_some e1
  obtain ⟨xb, gb, Lb, eb, e2⟩ := cb_some e2
  cases e1; cases e2
  obtain ⟨cs, hX, hM, -⟩ := dc_all h
  have u := lb_x (q := 3) (most := 99) (hX.d (e0_u (x := 0))) rfl (by omega) el nl _ _ _ ea
  have v := bo_m (j := 12 * 3 + l) (most := 99) (hM.d (e0_u (x := 0))) (by rw [ic_addc (m := 36) rfl el (by omega) (by omega)]; omega) rfl (by decide) _ _ _ eb
  refine Or.inl ⟨?_, by rw [v.1]; exact a0⟩
  rw [lb_e (PV.f (hM.d (e0_u (x := 0))).2.1) u v.2]
