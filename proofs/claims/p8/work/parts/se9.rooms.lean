/-! ===== what holds of the reference: who waits, rooms ===== -/
def RW (c : Nat) (g : gT) : Prop := ∀ i : Nat, (i : Int) < (g 0 1).toInt → 0 ≤ (g c (24 + i)).toInt ∧ (g c (24 + i)).toInt ≤ 9
def AR (m : Int) (c : Nat) (g : gT) : Prop := ∀ k : Nat, (k : Int) < m → 24 ≤ (g c (2 * k)).toInt → (g c (2 * k)).toInt ≤ 35 → 0 ≤ (g c (2 * k + 1)).toInt ∧ (g c (2 * k + 1)).toInt ≤ 9
def WI (g : gT) : Prop := WF (g 0 1).toInt.toNat g ∧ (RW 12 g ∧ AR (g 0 62).toInt 36 g) ∧ (¬ g 0 81 = 0 → RW 48 g ∧ AR (g 0 83).toInt 49 g)
theorem wf_e {n : Nat} {g g2 : gT} (h : WF n g) (e5 : g2 5 = g 5) (e6 : g2 6 = g 6) (e8 : g2 8 = g 8) (e9 : g2 9 = g 9) : WF n g2 := by
  unfold WF; rw [e5, e6, e8, e9]; exact h
/-- the fields and cells that count stand as they were -/
theorem wi_c {g g2 : gT} (h : WI g) (e5 : g2 5 = g 5) (e6 : g2 6 = g 6) (e8 : g2 8 = g 8) (e9 : g2 9 = g 9) (e12 : ∀ i : Nat, (i : Int) < (g 0 1).toInt → g2 12 (24 + i) = g 12 (24 + i)) (e36 : g2 36 = g 36) (e48 : g2 48 = g 48) (e49 : g2 49 = g 49) (e1 : g2 0 1 = g 0 1) (e62 : g2 0 62 = g 0 62) (e81 : g2 0 81 = g 0 81) (e83 : g2 0 83 = g 0 83) : WI g2 := by
  obtain ⟨h1, ⟨h2, h3⟩, h4⟩ := h
  refine ⟨by rw [e1]; exact wf_e h1 e5 e6 e8 e9, ⟨fun i hi => ?_, ?_⟩, fun c => ?_⟩
  · rw [e1] at hi
    rw [e12 i hi]; exact h2 i hi
  · unfold AR; rw [e62, e36]; exact h3
  · rw [e81] at c
    unfold RW AR
    rw [e1, e83, e48, e49]; exact h4 c
abbrev wiC : List Nat := [5, 6, 8, 9, 36, 48, 49]
abbrev wiF : List (Nat × Nat) := [(0, 1), (0, 62), (0, 81), (0, 83)]
theorem wi_fr {A : List (Nat × Nat)} {B : List Nat} {g g2 : gT} (h : WI g) (f : FW A B g g2) (o : okw (12 :: wiC) wiF A B = true) : WI g2 :=
  wi_c h (okw_c o f (by decide)) (okw_c o f (by decide)) (okw_c o f (by decide)) (okw_c o f (by decide)) (fun i _ => by rw [okw_c (k := 12) o f (by decide)]) (okw_c o f (by decide)) (okw_c o f (by decide)) (okw_c o f (by decide)) (okw_f o f (by decide)) (okw_f o f (by decide)) (okw_f o f (by decide)) (okw_f o f (by decide))
theorem wi_rs {A : List (Nat × Nat)} {B : List Nat} {g g2 : gT} (hI : zI MT g) (h : WI g) (f : FW A B g g2) (r : Rm S0 g g2) (o : okw wiC wiF A B = true) : WI g2 :=
  wi_c h (okw_c o f (by decide)) (okw_c o f (by decide)) (okw_c o f (by decide)) (okw_c o f (by decide)) (fun i hi => r 12 _ (cz_12 (by have := hI 0 1 0 12 rfl; omega)) id) (okw_c o f (by decide)) (okw_c o f (by decide)) (okw_c o f (by decide)) (okw_f o f (by decide)) (okw_f o f (by decide)) (okw_f o f (by decide)) (okw_f o f (by decide))
theorem ar_keep {g g1 : gT} {w v : Int32} (h0 : 0 ≤ (g 0 62).toInt) (h4 : (g 0 62).toInt ≤ 40) (hm : KM w v g g1) (hn : (g1 0 62).toInt = bmp (g 0 62).toInt) (h : AR (g 0 62).toInt 36 g) (new : 24 ≤ w.toInt → w.toInt ≤ 35 → 0 ≤ v.toInt ∧ v.toInt ≤ 9) : AR (g1 0 62).toInt 36 g1 := by
  obtain ⟨m1, ⟨m2, m3⟩, -, -⟩ := hm
  rw [hn, nA_b h0 h4]
  have hd : ∀ k : Nat, k < nA (g 0 62).toInt → ((k + dA (g 0 62).toInt : Nat) : Int) < (g 0 62).toInt := by
    intro k hk
    unfold nA at hk
    unfold dA
    split at hk
    · rename_i c
      rw [if_pos c]; omega
    · rename_i c
      rw [if_neg c]; omega
  intro k hk a b
  rcases (by omega : k < nA (g 0 62).toInt ∨ k = nA (g 0 62).toInt) with hh | hh
  · rw [m1 (2 * k) (by omega)] at a b
    rw [m1 (2 * k + 1) (by omega)]
    rw [show 2 * k + 2 * dA (g 0 62).toInt = 2 * (k + dA (g 0 62).toInt) by omega] at a b
    rw [show 2 * k + 1 + 2 * dA (g 0 62).toInt = 2 * (k + dA (g 0 62).toInt) + 1 by omega]
    exact h _ (hd k hh) a b
  · subst hh
    rw [m2] at a b
    rw [m3]; exact new a b
/-- an act was kept, then one cell of what is held may have changed -/
theorem wi_keep {g g1 g2 : gT} {w v : Int32} (hI : zI MT g) (h : WI g) (hm : KM w v g g1) (hn : (g1 0 62).toInt = bmp (g 0 62).toInt) (new : 24 ≤ w.toInt → w.toInt ≤ 35 → 0 ≤ v.toInt ∧ v.toInt ≤ 9) (ek : ∀ k, k ≠ 12 → k ≠ 0 → g2 k = g1 k) (e0 : ∀ j, j ≠ 52 → g2 0 j = g1 0 j) (e12 : ∀ i : Nat, (i : Int) < (g 0 1).toInt → (g2 12 (24 + i) = g 12 (24 + i) ∨ (0 ≤ (g2 12 (24 + i)).toInt ∧ (g2 12 (24 + i)).toInt ≤ 9))) : WI g2 := by
  have r := hI 0 62 0 40 rfl
  have a := ar_keep r.1 r.2 hm hn h.2.1.2 new
  obtain ⟨-, -, mk, m0⟩ := hm
  obtain ⟨h1, ⟨h2, h3⟩, h4⟩ := h
  have kk : ∀ k, k ≠ 12 → k ≠ 0 → k ≠ 36 → g2 k = g k := fun k a b c => (ek k a b).trans (mk k c b)
  have z1 : g2 0 1 = g 0 1 := (e0 1 (by decide)).trans (m0 1 (by decide))
  have z81 : g2 0 81 = g 0 81 := (e0 81 (by decide)).trans (m0 81 (by decide))
  have z83 : g2 0 83 = g 0 83 := (e0 83 (by decide)).trans (m0 83 (by decide))
  refine ⟨by rw [z1]; exact wf_e h1 (kk 5 (by decide) (by decide) (by decide)) (kk 6 (by decide) (by decide) (by decide)) (kk 8 (by decide) (by decide) (by decide)) (kk 9 (by decide) (by decide) (by decide)), ⟨fun i hi => ?_, ?_⟩, fun c => ?_⟩
  · rw [z1] at hi
    rcases e12 i hi with e | e
    · rw [e]; exact h2 i hi
    · exact e
  · unfold AR
    rw [e0 62 (by decide), ek 36 (by decide) (by decide)]; exact a
  · rw [z81] at c
    unfold RW AR
    rw [z1, z83, kk 48 (by decide) (by decide) (by decide), kk 49 (by decide) (by decide) (by decide)]; exact h4 c
/-- nothing but what was thrown and the counters -/
theorem wi_00 {g g2 : gT} (h : WI g) (ek : ∀ k, k ≠ 0 → k ≠ 14 → g2 k = g k) (e0 : ∀ j, j ≠ 0 → g2 0 j = g 0 j) : WI g2 :=
  wi_c h (ek 5 (by decide) (by decide)) (ek 6 (by decide) (by decide)) (ek 8 (by decide) (by decide)) (ek 9 (by decide) (by decide)) (fun i _ => by rw [ek 12 (by decide) (by decide)]) (ek 36 (by decide) (by decide)) (ek 48 (by decide) (by decide)) (ek 49 (by decide) (by decide)) (e0 1 (by decide)) (e0 62 (by decide)) (e0 81 (by decide)) (e0 83 (by decide))
theorem ref_m {fu : Nat} {p1 : Int32} {g : gT} {L : lT} : Pc (fX12_refuses fu p1 g L) (fun _ g1 _ => ∀ k, k ≠ 14 → g1 k = g k) := by
  unfold fX12_refuses
  exact pc_ck (fun _ _ => pc_ck (fun _ _ => pc_st (fun g1 e1 => pc_some (fun k hk => by rw [e1]; exact funext fun _ => upd2_nk hk))))
theorem wi_obey {fu : Nat} {p1 : Int32} {g : gT} {L : lT} (hI : zI MT g) (h : WI g) : Pc (fX12_obey fu p1 g L) (fun _ g2 _ => WI g2) := by
  unfold fX12_obey
  refine pc_st (fun g1 e1 => ?_)
  have k1 : ∀ k, k ≠ 0 → g1 k = g k := fun k hk => by rw [e1]; exact funext fun _ => upd2_nk hk
  have o1 : ∀ j, j ≠ 0 → g1 0 j = g 0 j := fun j hj => by rw [e1, upd2_nj hj]
  have w1 : WI g1 := wi_00 h (fun k a _ => k1 k a) o1
  have hI1 : zI MT g1 := by rw [e1]; exact hI.updN rfl
  have p18 : Pc (fX12_obey_p18 fu g1 L) (fun _ g2 _ => WI g2) := by
    unfold fX12_obey_p18 fX12_obey_p31
    refine pc_cb ref_m (fun x g3 L3 e3 => ?_)
    have w3 : WI g3 := wi_00 w1 (fun k _ b => e3 k b) (fun j _ => by rw [e3 0 (by decide)])
    exact pc_ite (fun _ => pc_ckb (pc_some w3)) (fun _ => pc_ckb (pc_some w3))
  refine pc_ite (fun _ => p18) (fun _ => pc_ite (fun _ => ?_) (fun _ => p18))
  have r := hI1 0 62 0 40 rfl
  refine pc_cb (pc_and (keeps_m r.1 r.2) (keeps_n r.1 r.2)) (fun x g10 L11 q => pc_st (fun g13 e13 => pc_ckb (pc_some ?_)))
  refine wi_keep hI1 w1 q.1 q.2 (fun _ b => absurd b (by decide)) (fun k _ b => by rw [e13]; exact funext fun _ => upd2_nk b) (fun j hj => by rw [e13, upd2_nj hj]) (fun i _ => Or.inl ?_)
  rw [e13, upd2_nk (by decide), q.1.2.2.1 12 (by decide) (by decide)]
theorem wi_become {fu : Nat} {p1 p2 p3 : Int32} {g : gT} {L : lT} (hI : zI MT g) (h : WI g) : Pc (fX12_become fu p1 p2 p3 g L) (fun _ g2 _ => WI g2) := by
  unfold fX12_become fX12_become_p22
  refine pc_st (fun g1 e1 => ?_)
  have k1 : ∀ k, k ≠ 0 → g1 k = g k := fun k hk => by rw [e1]; exact funext fun _ => upd2_nk hk
  have o1 : ∀ j, j ≠ 0 → g1 0 j = g 0 j := fun j hj => by rw [e1, upd2_nj hj]
  have w1 : WI g1 := wi_00 h (fun k a _ => k1 k a) o1
  have hI1 : zI MT g1 := by rw [e1]; exact hI.updN rfl
  have a0 : g1 0 0 = 0 := by rw [e1, upd2_at]
  have er : ∀ {x : Int32}, WI (upd2 g1 0 0 x) := fun {x} => wi_00 w1 (fun k a _ => funext fun _ => upd2_nk a) (fun j hj => upd2_nj hj)
  by_cases c1 : isL (g1 0 1) p1
  rotate_left
  · rw [lesson0 a0 c1, cbs, if_pos rfl]
    exact pc_some er
  rw [lesson1 a0 c1, cbs, if_neg (by decide)]
  by_cases c2 : 0 ≤ p2.toInt ∧ p2.toInt ≤ (3 : Int32).toInt
  rotate_left
  · rw [what0 a0 c2, cbs, if_pos rfl]
    exact pc_some er
  rw [what1 a0 c2.1 c2.2, cbs, if_neg (by decide)]
  have i3 : (3 : Int32).toInt = 3 := rfl
  have q1 := hI1 0 1 0 12 rfl
  have l := l12 c1 q1.2
  have r := hI1 0 62 0 40 rfl
  have p57 : ∀ hi : Int32, (p2.toInt = 2 → hi.toInt = 9) → Pc (fX12_become_p57 fu p1 p2 p3 hi 0 p3 g1 L) (fun _ g2 _ => WI g2) := by
    intro hi hh
    unfold fX12_become_p57
    by_cases c3 : (0 : Int32).toInt ≤ p3.toInt ∧ p3.toInt ≤ hi.toInt
    rotate_left
    · rw [within0 c3, cbs, if_pos rfl]
      exact pc_cb ref_m (fun x g3 L3 e3 => pc_some (wi_00 w1 (fun k _ b => e3 k b) (fun j _ => by rw [e3 0 (by decide)])))
    rw [within1 c3.1 c3.2, cbs, if_neg (by decide)]
    have z0 : (0 : Int32).toInt = 0 := rfl
    refine pc_lti (fun x17 e17 => pc_ck (fun _ _ => pc_lti (fun x18 e18 => pc_cb (pc_and (keeps_m r.1 r.2) (keeps_n r.1 r.2)) (fun x g20 L21 q => pc_ck (fun _ _ => pc_st (fun g23 e23 => pc_some ?_))))))
    have e12 : (12 * p2).toInt = 12 * p2.toInt := ic_mulc (m := 12) rfl rfl (by omega) (by omega)
    have ex : x17.toInt = 12 * p2.toInt + p1.toInt := by rw [e17, ic_addc e12 rfl (by omega) (by omega)]
    have exn : x17.toNatClampNeg = (12 * p2.toInt + p1.toInt).toNat := by rw [nc, ex]
    refine wi_keep hI1 w1 q.1 q.2 (fun a b => ?_) (fun k a _ => by rw [e23]; exact funext fun _ => upd2_nk a) (fun j _ => by rw [e23, upd2_nk (by decide)]) (fun i hi' => ?_)
    · have hl := w1.2.1.1 p1.toInt.toNat (by have := c1.2; omega)
      rw [e18, exn, show (12 * p2.toInt + p1.toInt).toNat = 24 + p1.toInt.toNat by omega]
      exact hl
    · rw [e23, exn]
      by_cases ei : 24 + i = (12 * p2.toInt + p1.toInt).toNat
      · rw [ei, upd2_at]
        have := hh (by omega)
        exact Or.inr (by omega)
      · rw [upd2_nj ei, q.1.2.2.1 12 (by decide) (by decide)]
        exact Or.inl rfl
  refine pc_ite (fun c => p57 _ (fun e => ?_)) (fun _ => pc_ite (fun c => p57 _ (fun e => ?_)) (fun _ => pc_ite (fun _ => p57 _ (fun _ => rfl)) (fun c => p57 _ (fun e => absurd (ic_eq.mpr e) c))))
  · rw [c] at e; exact absurd e (by decide)
  · rw [c] at e; exact absurd e (by decide)
theorem wi_undo {fu : Nat} {g : gT} {L : lT} (hI : zI MT g) (h : WI g) : Pc (fX12_undo fu g L) (fun _ g2 _ => WI g2) := by
  unfold fX12_undo fX12_undo_p89
  refine pc_st (fun g1 e1 => ?_)
  have k1 : ∀ k, k ≠ 0 → g1 k = g k := fun k hk => by rw [e1]; exact funext fun _ => upd2_nk hk
  have o1 : ∀ j, j ≠ 0 → g1 0 j = g 0 j := fun j hj => by rw [e1, upd2_nj hj]
  have w1 : WI g1 := wi_00 h (fun k a _ => k1 k a) o1
  have hI1 : zI MT g1 := by rw [e1]; exact hI.updN rfl
  have r := hI1 0 62 0 40 rfl
  refine pc_ite (fun _ => pc_some w1) (fun c => pc_st (fun g3 e3 => ?_))
  have c : ¬ (g1 0 62).toInt = 0 := icc_neq (n := 0) rfl rfl c
  have s62 : (g3 0 62).toInt = (g1 0 62).toInt - 1 := by rw [e3, upd2_at, ic_subc (n := 1) rfl rfl (by omega) (by omega)]
  have k3 : ∀ k, k ≠ 0 → g3 k = g1 k := fun k hk => by rw [e3]; exact funext fun _ => upd2_nk hk
  have o3 : ∀ j, j ≠ 62 → g3 0 j = g1 0 j := fun j hj => by rw [e3, upd2_nj hj]
  obtain ⟨m, em⟩ : ∃ m : Nat, (g3 0 62).toInt = (m : Int) := ⟨(g3 0 62).toInt.toNat, by omega⟩
  have e2 : (2 * g3 0 62).toInt = 2 * (m : Int) := ic_mulc (m := 2) rfl em (by omega) (by omega)
  have n2 : (2 * g3 0 62).toNatClampNeg = 2 * m := by rw [nc, e2]; omega
  have n3 : (2 * g3 0 62 + 1).toNatClampNeg = 2 * m + 1 := by rw [nc, ic_addc e2 (n := 1) rfl (by omega) (by omega)]; omega
  obtain ⟨h1, ⟨h2, h3⟩, h4⟩ := w1
  have fin : ∀ g6 : gT, (∀ k, k ≠ 0 → k ≠ 12 → g6 k = g3 k) → (∀ j, j ≠ 52 → g6 0 j = g3 0 j) → RW 12 g6 → WI g6 := by
    intro g6 ek e0 hR
    have kk : ∀ k, k ≠ 0 → k ≠ 12 → g6 k = g1 k := fun k a b => (ek k a b).trans (k3 k a)
    have z1 : g6 0 1 = g1 0 1 := (e0 1 (by decide)).trans (o3 1 (by decide))
    refine ⟨by rw [z1]; exact wf_e h1 (kk 5 (by decide) (by decide)) (kk 6 (by decide) (by decide)) (kk 8 (by decide) (by decide)) (kk 9 (by decide) (by decide)), ⟨hR, ?_⟩, fun cc => ?_⟩
    · unfold AR
      rw [e0 62 (by decide), kk 36 (by decide) (by decide)]
      exact fun k hk => h3 k (by omega)
    · rw [e0 81 (by decide), o3 81 (by decide)] at cc
      unfold RW AR
      rw [z1, e0 83 (by decide), o3 83 (by decide), kk 48 (by decide) (by decide), kk 49 (by decide) (by decide)]
      exact h4 cc
  rw [n2, n3]
  refine pc_ck (fun _ _ => pc_ite (fun _ => pc_ck (fun _ _ => pc_st (fun g6 e6 => pc_some (fin g6 ?_ ?_ ?_)))) (fun c2 => pc_ck (fun _ _ => pc_ck (fun _ _ => pc_ck (fun b1 b2 => pc_st (fun g5 e5 => pc_some (fin g5 ?_ ?_ ?_)))))))
  · exact fun k a _ => by rw [e6]; exact funext fun _ => upd2_nk a
  · exact fun j hj => by rw [e6, upd2_nj hj]
  · intro i hi
    rw [e6, upd2_nj (by decide), o3 1 (by decide)] at hi
    rw [e6, upd2_nk (by decide), k3 12 (by decide)]; exact h2 i hi
  · exact fun k _ b => by rw [e5]; exact funext fun _ => upd2_nk b
  · exact fun j _ => by rw [e5, upd2_nk (by decide)]
  · intro i hi
    rw [e5, upd2_nk (by decide), o3 1 (by decide)] at hi
    rw [e5]
    have q1 := hI1 0 1 0 12 rfl
    by_cases ei : 24 + i = (g3 36 (2 * m)).toNatClampNeg
    · rw [ei, upd2_at, k3 36 (by decide)]
      rw [nc, k3 36 (by decide)] at ei
      rw [k3 36 (by decide)] at b1
      exact h3 m (by omega) (by omega) (by omega)
    · rw [upd2_nj ei, k3 12 (by decide)]; exact h2 i hi
theorem wi_image {fu : Nat} (hfu : 1180591620717411303424 ≤ fu) {g : gT} {L : lT} (hI : zI MT g) (h : WI g) : Pc (fX12_image fu g L) (fun _ g2 _ => WI g2) := by
  intro x g2 L2 e2
  have f2 : FW _ _ g g2 := w_fX12_image _ _ _ _ FW.refl _ _ e2
  have q1 := hI 0 1 0 12 rfl
  have q62 := hI 0 62 0 40 rfl
  unfold fX12_image at e2
  unfold sti at e2
  obtain ⟨x1, ga, La, ea, e⟩ := cb_some e2
  obtain ⟨x2, gb, Lb, eb, e⟩ := cb_some e
  obtain ⟨x3, gc, Lc, ec, e⟩ := cb_some e
  cases e
  have ha := pc_ex (uX12_copies_12_48 fu hfu _ L) _ _ _ ea
  have hb := pc_ex (uX12_copies_36_49 fu hfu ga La) _ _ _ eb
  have hc := pc_ex (uX12_copies_43_50 fu hfu gb Lb) _ _ _ ec
  have y1 : ∀ j, j < 48 → g2 48 j = g 12 j := fun j hj => by rw [hc, cpd_ne (by decide), hb, cpd_ne (by decide), ha, cpd_at hj]; rfl
  have y2 : ∀ j, j < 80 → g2 49 j = g 36 j := fun j hj => by rw [hc, cpd_ne (by decide), hb, cpd_at hj, ha, cpd_ne (by decide)]; rfl
  have y3 : g2 0 83 = g 0 62 := by rw [hc, cpd_ne (by decide), hb, cpd_ne (by decide), ha, cpd_ne (by decide)]; rfl
  obtain ⟨h1, ⟨h2, h3⟩, h4⟩ := h
  have z1 : g2 0 1 = g 0 1 := f2 0 1 (by decide) (by decide)
  have kk : ∀ k, k ∉ [0, 48, 49, 50] → g2 k = g k := fun k hk => f2.c (fun hm => hk (by revert hm; simp only [List.mem_cons, List.not_mem_nil, or_false]; omega)) (fun hm => hk (by revert hm; simp only [List.map, List.mem_cons, List.not_mem_nil, or_false]; omega))
  refine ⟨by rw [z1]; exact wf_e h1 (kk 5 (by decide)) (kk 6 (by decide)) (kk 8 (by decide)) (kk 9 (by decide)), ⟨?_, ?_⟩, fun _ => ⟨fun i hi => ?_, fun k hk a b => ?_⟩⟩
  · unfold RW; rw [z1, kk 12 (by decide)]; exact h2
  · unfold AR; rw [f2 0 62 (by decide) (by decide), kk 36 (by decide)]; exact h3
  · rw [z1] at hi
    rw [y1 _ (by omega)]; exact h2 i hi
  · rw [y3] at hk
    rw [y2 _ (by omega)] at a b ⊢
    exact h3 k hk a b
theorem wi_restore {fu : Nat} (hfu : 1180591620717411303424 ≤ fu) {g : gT} {L : lT} (hI : zI MT g) (h : WI g) : Pc (fX12_restore fu g L) (fun _ g2 _ => WI g2) := by
  intro x g2 L2 e2
  have f2 : FW _ _ g g2 := w_fX12_restore _ _ _ _ FW.refl _ _ e2
  have q1 := hI 0 1 0 12 rfl
  have q83 := hI 0 83 0 40 rfl
  unfold fX12_restore at e2
  unfold sti at e2
  by_cases c : g 0 81 = 0
  · have e2 : (if g 0 81 = 0 then _ else _) = some (x, (g2, L2)) := e2
    rw [if_pos c] at e2
    cases e2
    exact wi_00 h (fun k a _ => funext fun _ => upd2_nk a) (fun j hj => upd2_nj hj)
  have e2 : (if g 0 81 = 0 then _ else _) = some (x, (g2, L2)) := e2
  rw [if_neg c] at e2
  obtain ⟨x1, ga, La, ea, e⟩ := cb_some e2
  obtain ⟨x2, gb, Lb, eb, e⟩ := cb_some e
  obtain ⟨x3, gc, Lc, ec, e⟩ := cb_some e
  cases e
  have ha := pc_ex (uX12_copies_48_12 fu hfu _ L) _ _ _ ea
  have hb := pc_ex (uX12_copies_49_36 fu hfu ga La) _ _ _ eb
  have hc := pc_ex (uX12_copies_50_43 fu hfu gb Lb) _ _ _ ec
  have y1 : ∀ j, j < 48 → g2 12 j = g 48 j := fun j hj => by rw [hc, cpd_ne (by decide), hb, cpd_ne (by decide), ha, cpd_at hj]; rfl
  have y2 : ∀ j, j < 80 → g2 36 j = g 49 j := fun j hj => by rw [hc, cpd_ne (by decide), hb, cpd_at hj, ha, cpd_ne (by decide)]; rfl
  have y3 : g2 0 62 = g 0 83 := by rw [hc, cpd_ne (by decide), hb, cpd_ne (by decide), ha, cpd_ne (by decide)]; rfl
  obtain ⟨h1, -, h4⟩ := h
  obtain ⟨h2, h3⟩ := h4 c
  have z1 : g2 0 1 = g 0 1 := f2 0 1 (by decide) (by decide)
  have kk : ∀ k, k ∉ [0, 12, 36, 43] → g2 k = g k := fun k hk => f2.c (fun hm => hk (by revert hm; simp only [List.mem_cons, List.not_mem_nil, or_false]; omega)) (fun hm => hk (by revert hm; simp only [List.map, List.mem_cons, List.not_mem_nil, or_false]; omega))
  refine ⟨by rw [z1]; exact wf_e h1 (kk 5 (by decide)) (kk 6 (by decide)) (kk 8 (by decide)) (kk 9 (by decide)), ⟨fun i hi => ?_, fun k hk a b => ?_⟩, fun cc => ?_⟩
  · rw [z1] at hi
    rw [y1 _ (by omega)]; exact h2 i hi
  · rw [y3] at hk
    rw [y2 _ (by omega)] at a b ⊢
    exact h3 k hk a b
  · rw [f2 0 81 (by decide) (by decide)] at cc
    unfold RW AR
    rw [z1, f2 0 83 (by decide) (by decide), kk 48 (by decide), kk 49 (by decide)]
    exact h4 cc
theorem leS_r {b : Nat → Int32} {n P R : Nat} {l : Int} (h : leS b n l P = .ok R) : 0 ≤ leV b n P 7 ∧ leV b n P 7 ≤ 9 := by
  unfold leS at h
  obtain ⟨P1, e1, h⟩ := bn_inv h
  obtain ⟨P2, e2, h⟩ := bn_inv h
  obtain ⟨P3, e3, h⟩ := bn_inv h
  obtain ⟨P4, e4, h⟩ := bn_inv h
  obtain ⟨P5, e5, h⟩ := bn_inv h
  have q : P4 = nxI b n 5 P := by
    rw [(nuS_ok e4).2, (nuS_ok e3).2, (nuS_ok e2).2, (nuS_ok e1).2]; rfl
  rw [q] at e5
  exact (nuS_ok e5).1.2.2
theorem wi_house {fu : Nat} (hfu : 1180591620717411303424 ≤ fu) {p1 rm : Int32} {g g2 : gT} {L L2 : lT} (hI : zI MT g) (h : WI g) (e2 : fX12_house fu p1 g L = some (rm, (g2, L2))) : WI g2 := by
  have q18 := hI 0 18 0 700 rfl
  by_cases c : 0 ≤ p1.toInt ∧ p1.toInt ≤ (g 0 18).toInt
  · obtain ⟨n, hn⟩ : ∃ n : Nat, p1.toInt = (n : Int) := ⟨p1.toInt.toNat, by omega⟩
    have y4 := pc_ex (t_house hfu (b := g 13) (n := n) (L0 := L) hI hn (by omega) (fun j hj => rfl)) _ _ _ e2
    have hl := ho_les (b := g 13) (n := n) 702 (0, 0, false, false) D0 (sk (g 13) n 0)
    clear e2
    revert y4 hl
    generalize hoS (g 13) n 702 (0, 0, false, false) (sk (g 13) n 0) = R
    generalize hoD (g 13) n 702 (0, 0, false, false) D0 (sk (g 13) n 0) = DD
    intro y4 hl
    cases R with
    | error p =>
      obtain ⟨-, y2, -⟩ := y4
      exact wi_fr h y2.fw (by decide)
    | ok t =>
      obtain ⟨-, y2, y3, -, -, y6, -, -, -, q1, -⟩ := y4
      have hl := hl t rfl (fun i hi => absurd hi (Nat.not_lt_zero _))
      refine ⟨fun i hi => ?_, ⟨fun i hi => ?_, fun k hk => ?_⟩, fun cc => absurd y2 cc⟩
      · obtain ⟨R, e⟩ := hl i (by omega)
        exact wf_les (q1 i (by omega)) e
      · obtain ⟨R, e⟩ := hl i (by omega)
        obtain ⟨-, -, -, -, m6, -⟩ := q1 i (by omega)
        replace m6 : (g2 12 (24 + i)).toInt = leV (g 13) n (DD.1 i) 7 := m6
        rw [m6]; exact leS_r e
      · rw [y6] at hk
        exact absurd hk (by show ¬ (k : Int) < 0; omega)
  · have c' : p1.toInt < 0 ∨ (g 0 18).toInt < p1.toInt := by omega
    rw [m_refused c'] at e2
    cases e2
    refine wi_00 h (fun k a _ => funext fun _ => by rw [upd2_nk a, upd2_nk a]) (fun j hj => by rw [upd2_nj hj, upd2_nj hj])
/-- class and reference, side by side: counts, data, and what holds of waiting and of rooms -/
def CR (g gm : gT) : Prop := CQ g gm ∧ WI gm
theorem dc_r {g d : gT} (h : CR g d) : ∃ cs, DC cs (d 0 1).toInt.toNat g d ∧ MD cs (d 0 1).toInt.toNat d := dc_of h.1.1 h.1.2 h.2.1 h.2.2.1.1
