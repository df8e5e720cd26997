/-! ===== what holds of the reference: the numbers of a plan, limits, sightings ===== -/
def VP (g : gT) : Prop := (∀ i : Nat, (i : Int) < (g 0 1).toInt → (0 ≤ (g 1 i).toInt ∧ (g 1 i).toInt < (g 2 i).toInt ∧ (g 2 i).toInt ≤ 999) ∧ (1 ≤ (g 3 i).toInt ∧ (g 3 i).toInt ≤ 200) ∧ (1 ≤ (g 4 i).toInt ∧ (g 4 i).toInt ≤ 99) ∧ (0 ≤ (g 7 i).toInt ∧ (g 7 i).toInt ≤ 10)) ∧ 0 ≤ (g 0 3).toInt ∧ (g 0 3).toInt ≤ 9
def LW (c : Nat) (g : gT) : Prop := ∀ i : Nat, (i : Int) < (g 0 1).toInt → 0 ≤ (g c (36 + i)).toInt ∧ (g c (36 + i)).toInt ≤ 99
def AL (m : Int) (c : Nat) (g : gT) : Prop := ∀ k : Nat, (k : Int) < m → 36 ≤ (g c (2 * k)).toInt → (g c (2 * k)).toInt ≤ 47 → 0 ≤ (g c (2 * k + 1)).toInt ∧ (g c (2 * k + 1)).toInt ≤ 99
def SN (m : Int) (c : Nat) (g : gT) : Prop := ∀ k : Nat, (k : Int) < m → 0 ≤ (g c (2 * k)).toInt ∧ (g c (2 * k)).toInt < (g 0 1).toInt
def VH (g : gT) : Prop := LW 12 g ∧ AL (g 0 62).toInt 36 g ∧ SN (g 0 73).toInt 43 g
def VM (g : gT) : Prop := LW 48 g ∧ AL (g 0 83).toInt 49 g ∧ SN (g 0 84).toInt 50 g
def VI (g : gT) : Prop := VP g ∧ VH g ∧ (¬ g 0 81 = 0 → VM g)
theorem vp_c {g g2 : gT} (h : VP g) (e1 : g2 1 = g 1) (e2 : g2 2 = g 2) (e3 : g2 3 = g 3) (e4 : g2 4 = g 4) (e7 : g2 7 = g 7) (f1 : g2 0 1 = g 0 1) (f3 : g2 0 3 = g 0 3) : VP g2 := by
  unfold VP
  rw [e1, e2, e3, e4, e7, f1, f3]; exact h
theorem vm_c {g g2 : gT} (h : VM g) (e48 : g2 48 = g 48) (e49 : g2 49 = g 49) (e50 : g2 50 = g 50) (f1 : g2 0 1 = g 0 1) (f83 : g2 0 83 = g 0 83) (f84 : g2 0 84 = g 0 84) : VM g2 := by
  unfold VM LW AL SN
  rw [e48, e49, e50, f1, f83, f84]; exact h
/-- the fields and cells that count stand as they were -/
theorem vi_c {g g2 : gT} (h : VI g) (e1 : g2 1 = g 1) (e2 : g2 2 = g 2) (e3 : g2 3 = g 3) (e4 : g2 4 = g 4) (e7 : g2 7 = g 7) (e12 : ∀ i : Nat, (i : Int) < (g 0 1).toInt → g2 12 (36 + i) = g 12 (36 + i)) (e36 : g2 36 = g 36) (e43 : g2 43 = g 43) (e48 : g2 48 = g 48) (e49 : g2 49 = g 49) (e50 : g2 50 = g 50) (f1 : g2 0 1 = g 0 1) (f3 : g2 0 3 = g 0 3) (f62 : g2 0 62 = g 0 62) (f73 : g2 0 73 = g 0 73) (f81 : g2 0 81 = g 0 81) (f83 : g2 0 83 = g 0 83) (f84 : g2 0 84 = g 0 84) : VI g2 := by
  obtain ⟨h1, ⟨h2, h3, h4⟩, h5⟩ := h
  refine ⟨vp_c h1 e1 e2 e3 e4 e7 f1 f3, ⟨fun i hi => ?_, ?_, ?_⟩, fun c => ?_⟩
  · rw [f1] at hi
    rw [e12 i hi]; exact h2 i hi
  · unfold AL; rw [f62, e36]; exact h3
  · unfold SN; rw [f1, f73, e43]; exact h4
  · rw [f81] at c
    exact vm_c (h5 c) e48 e49 e50 f1 f83 f84
abbrev viC : List Nat := [3, 4, 7, 36, 43, 48, 49, 50]
abbrev viF : List (Nat × Nat) := [(0, 1), (0, 3), (0, 62), (0, 73), (0, 81), (0, 83), (0, 84)]
theorem vi_fr {A : List (Nat × Nat)} {B : List Nat} {g g2 : gT} (h : VI g) (f : FW A B g g2) (o : okw (1 :: 2 :: 12 :: viC) viF A B = true) : VI g2 :=
  vi_c h (okw_c o f (by decide)) (okw_c o f (by decide)) (okw_c o f (by decide)) (okw_c o f (by decide)) (okw_c o f (by decide)) (fun i _ => by rw [okw_c (k := 12) o f (by decide)]) (okw_c o f (by decide)) (okw_c o f (by decide)) (okw_c o f (by decide)) (okw_c o f (by decide)) (okw_c o f (by decide)) (okw_f o f (by decide)) (okw_f o f (by decide)) (okw_f o f (by decide)) (okw_f o f (by decide)) (okw_f o f (by decide)) (okw_f o f (by decide)) (okw_f o f (by decide))
theorem vi_rs {A : List (Nat × Nat)} {B : List Nat} {g g2 : gT} (hI : zI MT g) (h : VI g) (f : FW A B g g2) (r : Rm S0 g g2) (o : okw viC viF A B = true) : VI g2 :=
  vi_c h (funext fun j => r 1 j (Or.inr (Or.inl rfl)) id) (funext fun j => r 2 j (Or.inr (Or.inr (Or.inl rfl))) id) (okw_c o f (by decide)) (okw_c o f (by decide)) (okw_c o f (by decide)) (fun i hi => r 12 _ (cz_12 (by have := hI 0 1 0 12 rfl; omega)) id) (okw_c o f (by decide)) (okw_c o f (by decide)) (okw_c o f (by decide)) (okw_c o f (by decide)) (okw_c o f (by decide)) (okw_f o f (by decide)) (okw_f o f (by decide)) (okw_f o f (by decide)) (okw_f o f (by decide)) (okw_f o f (by decide)) (okw_f o f (by decide)) (okw_f o f (by decide))
theorem al_keep {g g1 : gT} {w v : Int32} (h0 : 0 ≤ (g 0 62).toInt) (h4 : (g 0 62).toInt ≤ 40) (hm : KM w v g g1) (hn : (g1 0 62).toInt = bmp (g 0 62).toInt) (h : AL (g 0 62).toInt 36 g) (new : 36 ≤ w.toInt → w.toInt ≤ 47 → 0 ≤ v.toInt ∧ v.toInt ≤ 99) : AL (g1 0 62).toInt 36 g1 := by
  obtain ⟨m1, ⟨m2, m3⟩, -, -⟩ := hm
  rw [hn, nA_b h0 h4]
  have hd : ∀ k : Nat, k < nA (g 0 62).toInt → ((k + dA (g 0 62).toInt : Nat) : Int) < (g 0 62).toInt := by
    intro k hk
    unfold nA at hk
    unfold dA
    split at hk
    · rename_i c
      rw [if_pos c]; omega
    · rename_i c
      rw [if_neg c]; omega
  intro k hk a b
  rcases (by omega : k < nA (g 0 62).toInt ∨ k = nA (g 0 62).toInt) with hh | hh
  · rw [m1 (2 * k) (by omega)] at a b
    rw [m1 (2 * k + 1) (by omega)]
    rw [show 2 * k + 2 * dA (g 0 62).toInt = 2 * (k + dA (g 0 62).toInt) by omega] at a b
    rw [show 2 * k + 1 + 2 * dA (g 0 62).toInt = 2 * (k + dA (g 0 62).toInt) + 1 by omega]
    exact h _ (hd k hh) a b
  · subst hh
    rw [m2] at a b
    rw [m3]; exact new a b
/-- an act was kept, then one cell of what is held may have changed -/
theorem vi_keep {g g1 g2 : gT} {w v : Int32} (hI : zI MT g) (h : VI g) (hm : KM w v g g1) (hn : (g1 0 62).toInt = bmp (g 0 62).toInt) (new : 36 ≤ w.toInt → w.toInt ≤ 47 → 0 ≤ v.toInt ∧ v.toInt ≤ 99) (ek : ∀ k, k ≠ 12 → k ≠ 0 → g2 k = g1 k) (e0 : ∀ j, j ≠ 52 → g2 0 j = g1 0 j) (e12 : ∀ i : Nat, (i : Int) < (g 0 1).toInt → (g2 12 (36 + i) = g 12 (36 + i) ∨ (0 ≤ (g2 12 (36 + i)).toInt ∧ (g2 12 (36 + i)).toInt ≤ 99))) : VI g2 := by
  have r := hI 0 62 0 40 rfl
  have a := al_keep r.1 r.2 hm hn h.2.1.2.1 new
  obtain ⟨-, -, mk, m0⟩ := hm
  obtain ⟨h1, ⟨h2, h3, h4⟩, h5⟩ := h
  have kk : ∀ k, k ≠ 12 → k ≠ 0 → k ≠ 36 → g2 k = g k := fun k a b c => (ek k a b).trans (mk k c b)
  have zz : ∀ j, j ≠ 52 → j ≠ 62 → g2 0 j = g 0 j := fun j a b => (e0 j a).trans (m0 j b)
  have z1 : g2 0 1 = g 0 1 := zz 1 (by decide) (by decide)
  refine ⟨vp_c h1 (kk 1 (by decide) (by decide) (by decide)) (kk 2 (by decide) (by decide) (by decide)) (kk 3 (by decide) (by decide) (by decide)) (kk 4 (by decide) (by decide) (by decide)) (kk 7 (by decide) (by decide) (by decide)) z1 (zz 3 (by decide) (by decide)), ⟨fun i hi => ?_, ?_, ?_⟩, fun c => ?_⟩
  · rw [z1] at hi
    rcases e12 i hi with e | e
    · rw [e]; exact h2 i hi
    · exact e
  · unfold AL
    rw [e0 62 (by decide), ek 36 (by decide) (by decide)]; exact a
  · unfold SN
    rw [z1, zz 73 (by decide) (by decide), kk 43 (by decide) (by decide) (by decide)]; exact h4
  · rw [zz 81 (by decide) (by decide)] at c
    exact vm_c (h5 c) (kk 48 (by decide) (by decide) (by decide)) (kk 49 (by decide) (by decide) (by decide)) (kk 50 (by decide) (by decide) (by decide)) z1 (zz 83 (by decide) (by decide)) (zz 84 (by decide) (by decide))
/-- nothing but what was thrown and the counters -/
theorem vi_00 {g g2 : gT} (h : VI g) (ek : ∀ k, k ≠ 0 → k ≠ 14 → g2 k = g k) (e0 : ∀ j, j ≠ 0 → g2 0 j = g 0 j) : VI g2 :=
  vi_c h (ek 1 (by decide) (by decide)) (ek 2 (by decide) (by decide)) (ek 3 (by decide) (by decide)) (ek 4 (by decide) (by decide)) (ek 7 (by decide) (by decide)) (fun i _ => by rw [ek 12 (by decide) (by decide)]) (ek 36 (by decide) (by decide)) (ek 43 (by decide) (by decide)) (ek 48 (by decide) (by decide)) (ek 49 (by decide) (by decide)) (ek 50 (by decide) (by decide)) (e0 1 (by decide)) (e0 3 (by decide)) (e0 62 (by decide)) (e0 73 (by decide)) (e0 81 (by decide)) (e0 83 (by decide)) (e0 84 (by decide))
theorem vi_obey {fu : Nat} {p1 : Int32} {g : gT} {L : lT} (hI : zI MT g) (h : VI g) : Pc (fX12_obey fu p1 g L) (fun _ g2 _ => VI g2) := by
  unfold fX12_obey
  refine pc_st (fun g1 e1 => ?_)
  have k1 : ∀ k, k ≠ 0 → g1 k = g k := fun k hk => by rw [e1]; exact funext fun _ => upd2_nk hk
  have o1 : ∀ j, j ≠ 0 → g1 0 j = g 0 j := fun j hj => by rw [e1, upd2_nj hj]
  have w1 : VI g1 := vi_00 h (fun k a _ => k1 k a) o1
  have hI1 : zI MT g1 := by rw [e1]; exact hI.updN rfl
  have p18 : Pc (fX12_obey_p18 fu g1 L) (fun _ g2 _ => VI g2) := by
    unfold fX12_obey_p18 fX12_obey_p31
    refine pc_cb ref_m (fun x g3 L3 e3 => ?_)
    have w3 : VI g3 := vi_00 w1 (fun k _ b => e3 k b) (fun j _ => by rw [e3 0 (by decide)])
    exact pc_ite (fun _ => pc_ckb (pc_some w3)) (fun _ => pc_ckb (pc_some w3))
  refine pc_ite (fun _ => p18) (fun _ => pc_ite (fun _ => ?_) (fun _ => p18))
  have r := hI1 0 62 0 40 rfl
  refine pc_cb (pc_and (keeps_m r.1 r.2) (keeps_n r.1 r.2)) (fun x g10 L11 q => pc_st (fun g13 e13 => pc_ckb (pc_some ?_)))
  refine vi_keep hI1 w1 q.1 q.2 (fun _ b => absurd b (by decide)) (fun k _ b => by rw [e13]; exact funext fun _ => upd2_nk b) (fun j hj => by rw [e13, upd2_nj hj]) (fun i _ => Or.inl ?_)
  rw [e13, upd2_nk (by decide), q.1.2.2.1 12 (by decide) (by decide)]
theorem vi_become {fu : Nat} {p1 p2 p3 : Int32} {g : gT} {L : lT} (hI : zI MT g) (h : VI g) : Pc (fX12_become fu p1 p2 p3 g L) (fun _ g2 _ => VI g2) := by
  unfold fX12_become fX12_become_p22
  refine pc_st (fun g1 e1 => ?_)
  have k1 : ∀ k, k ≠ 0 → g1 k = g k := fun k hk => by rw [e1]; exact funext fun _ => upd2_nk hk
  have o1 : ∀ j, j ≠ 0 → g1 0 j = g 0 j := fun j hj => by rw [e1, upd2_nj hj]
  have w1 : VI g1 := vi_00 h (fun k a _ => k1 k a) o1
  have hI1 : zI MT g1 := by rw [e1]; exact hI.updN rfl
  have a0 : g1 0 0 = 0 := by rw [e1, upd2_at]
  have er : ∀ {x : Int32}, VI (upd2 g1 0 0 x) := fun {x} => vi_00 w1 (fun k a _ => funext fun _ => upd2_nk a) (fun j hj => upd2_nj hj)
  by_cases c1 : isL (g1 0 1) p1
  rotate_left
  · rw [lesson0 a0 c1, cbs, if_pos rfl]
    exact pc_some er
  rw [lesson1 a0 c1, cbs, if_neg (by decide)]
  by_cases c2 : 0 ≤ p2.toInt ∧ p2.toInt ≤ (3 : Int32).toInt
  rotate_left
  · rw [what0 a0 c2, cbs, if_pos rfl]
    exact pc_some er
  rw [what1 a0 c2.1 c2.2, cbs, if_neg (by decide)]
  have i3 : (3 : Int32).toInt = 3 := rfl
  have q1 := hI1 0 1 0 12 rfl
  have l := l12 c1 q1.2
  have r := hI1 0 62 0 40 rfl
  have p57 : ∀ hi : Int32, (p2.toInt = 3 → hi.toInt = 99) → Pc (fX12_become_p57 fu p1 p2 p3 hi 0 p3 g1 L) (fun _ g2 _ => VI g2) := by
    intro hi hh
    unfold fX12_become_p57
    by_cases c3 : (0 : Int32).toInt ≤ p3.toInt ∧ p3.toInt ≤ hi.toInt
    rotate_left
    · rw [within0 c3, cbs, if_pos rfl]
      exact pc_cb ref_m (fun x g3 L3 e3 => pc_some (vi_00 w1 (fun k _ b => e3 k b) (fun j _ => by rw [e3 0 (by decide)])))
    rw [within1 c3.1 c3.2, cbs, if_neg (by decide)]
    have z0 : (0 : Int32).toInt = 0 := rfl
    refine pc_lti (fun x17 e17 => pc_ck (fun _ _ => pc_lti (fun x18 e18 => pc_cb (pc_and (keeps_m r.1 r.2) (keeps_n r.1 r.2)) (fun x g20 L21 q => pc_ck (fun _ _ => pc_st (fun g23 e23 => pc_some ?_))))))
    have e12 : (12 * p2).toInt = 12 * p2.toInt := ic_mulc (m := 12) rfl rfl (by omega) (by omega)
    have ex : x17.toInt = 12 * p2.toInt + p1.toInt := by rw [e17, ic_addc e12 rfl (by omega) (by omega)]
    have exn : x17.toNatClampNeg = (12 * p2.toInt + p1.toInt).toNat := by rw [nc, ex]
    refine vi_keep hI1 w1 q.1 q.2 (fun a b => ?_) (fun k a _ => by rw [e23]; exact funext fun _ => upd2_nk a) (fun j _ => by rw [e23, upd2_nk (by decide)]) (fun i hi' => ?_)
    · have hl := w1.2.1.1 p1.toInt.toNat (by have := c1.2; omega)
      rw [e18, exn, show (12 * p2.toInt + p1.toInt).toNat = 36 + p1.toInt.toNat by omega]
      exact hl
    · rw [e23, exn]
      by_cases ei : 36 + i = (12 * p2.toInt + p1.toInt).toNat
      · rw [ei, upd2_at]
        have := hh (by omega)
        exact Or.inr (by omega)
      · rw [upd2_nj ei, q.1.2.2.1 12 (by decide) (by decide)]
        exact Or.inl rfl
  refine pc_ite (fun c => p57 _ (fun e => ?_)) (fun _ => pc_ite (fun c => p57 _ (fun e => ?_)) (fun _ => pc_ite (fun c => p57 _ (fun e => ?_)) (fun _ => p57 _ (fun _ => rfl))))
  · rw [c] at e; exact absurd e (by decide)
  · rw [c] at e; exact absurd e (by decide)
  · rw [c] at e; exact absurd e (by decide)
theorem vi_undo {fu : Nat} {g : gT} {L : lT} (hI : zI MT g) (h : VI g) : Pc (fX12_undo fu g L) (fun _ g2 _ => VI g2) := by
  unfold fX12_undo fX12_undo_p89
  refine pc_st (fun g1 e1 => ?_)
  have k1 : ∀ k, k ≠ 0 → g1 k = g k := fun k hk => by rw [e1]; exact funext fun _ => upd2_nk hk
  have o1 : ∀ j, j ≠ 0 → g1 0 j = g 0 j := fun j hj => by rw [e1, upd2_nj hj]
  have w1 : VI g1 := vi_00 h (fun k a _ => k1 k a) o1
  have hI1 : zI MT g1 := by rw [e1]; exact hI.updN rfl
  have r := hI1 0 62 0 40 rfl
  refine pc_ite (fun _ => pc_some w1) (fun c => pc_st (fun g3 e3 => ?_))
  have c : ¬ (g1 0 62).toInt = 0 := icc_neq (n := 0) rfl rfl c
  have s62 : (g3 0 62).toInt = (g1 0 62).toInt - 1 := by rw [e3, upd2_at, ic_subc (n := 1) rfl rfl (by omega) (by omega)]
  have k3 : ∀ k, k ≠ 0 → g3 k = g1 k := fun k hk => by rw [e3]; exact funext fun _ => upd2_nk hk
  have o3 : ∀ j, j ≠ 62 → g3 0 j = g1 0 j := fun j hj => by rw [e3, upd2_nj hj]
  obtain ⟨m, em⟩ : ∃ m : Nat, (g3 0 62).toInt = (m : Int) := ⟨(g3 0 62).toInt.toNat, by omega⟩
  have e2 : (2 * g3 0 62).toInt = 2 * (m : Int) := ic_mulc (m := 2) rfl em (by omega) (by omega)
  have n2 : (2 * g3 0 62).toNatClampNeg = 2 * m := by rw [nc, e2]; omega
  have n3 : (2 * g3 0 62 + 1).toNatClampNeg = 2 * m + 1 := by rw [nc, ic_addc e2 (n := 1) rfl (by omega) (by omega)]; omega
  obtain ⟨h1, ⟨h2, h3, h4⟩, h5⟩ := w1
  have fin : ∀ g6 : gT, (∀ k, k ≠ 0 → k ≠ 12 → g6 k = g3 k) → (∀ j, j ≠ 52 → g6 0 j = g3 0 j) → LW 12 g6 → VI g6 := by
    intro g6 ek e0 hR
    have kk : ∀ k, k ≠ 0 → k ≠ 12 → g6 k = g1 k := fun k a b => (ek k a b).trans (k3 k a)
    have zz : ∀ j, j ≠ 52 → j ≠ 62 → g6 0 j = g1 0 j := fun j a b => (e0 j a).trans (o3 j b)
    refine ⟨vp_c h1 (kk 1 (by decide) (by decide)) (kk 2 (by decide) (by decide)) (kk 3 (by decide) (by decide)) (kk 4 (by decide) (by decide)) (kk 7 (by decide) (by decide)) (zz 1 (by decide) (by decide)) (zz 3 (by decide) (by decide)), ⟨hR, ?_, ?_⟩, fun cc => ?_⟩
    · unfold AL
      rw [e0 62 (by decide), kk 36 (by decide) (by decide)]
      exact fun k hk => h3 k (by omega)
    · unfold SN
      rw [zz 1 (by decide) (by decide), zz 73 (by decide) (by decide), kk 43 (by decide) (by decide)]; exact h4
    · rw [zz 81 (by decide) (by decide)] at cc
      exact vm_c (h5 cc) (kk 48 (by decide) (by decide)) (kk 49 (by decide) (by decide)) (kk 50 (by decide) (by decide)) (zz 1 (by decide) (by decide)) (zz 83 (by decide) (by decide)) (zz 84 (by decide) (by decide))
  rw [n2, n3]
  refine pc_ck (fun _ _ => pc_ite (fun _ => pc_ck (fun _ _ => pc_st (fun g6 e6 => pc_some (fin g6 ?_ ?_ ?_)))) (fun c2 => pc_ck (fun _ _ => pc_ck (fun _ _ => pc_ck (fun b1 b2 => pc_st (fun g5 e5 => pc_some (fin g5 ?_ ?_ ?_)))))))
  · exact fun k a _ => by rw [e6]; exact funext fun _ => upd2_nk a
  · exact fun j hj => by rw [e6, upd2_nj hj]
  · intro i hi
    rw [e6, upd2_nj (by decide), o3 1 (by decide)] at hi
    rw [e6, upd2_nk (by decide), k3 12 (by decide)]; exact h2 i hi
  · exact fun k _ b => by rw [e5]; exact funext fun _ => upd2_nk b
  · exact fun j _ => by rw [e5, upd2_nk (by decide)]
  · intro i hi
    rw [e5, upd2_nk (by decide), o3 1 (by decide)] at hi
    rw [e5]
    have q1 := hI1 0 1 0 12 rfl
    by_cases ei : 36 + i = (g3 36 (2 * m)).toNatClampNeg
    · rw [ei, upd2_at, k3 36 (by decide)]
      rw [nc, k3 36 (by decide)] at ei
      rw [k3 36 (by decide)] at b1
      exact h3 m (by omega) (by omega) (by omega)
    · rw [upd2_nj ei, k3 12 (by decide)]; exact h2 i hi
theorem vi_see {fu : Nat} {p1 p2 : Int32} {g : gT} {L : lT} (hI : zI MT g) (h : VI g) : Pc (fX12_see fu p1 p2 g L) (fun _ g2 _ => VI g2) := by
  unfold fX12_see
  refine pc_st (fun g1 e1 => ?_)
  have k1 : ∀ k, k ≠ 0 → g1 k = g k := fun k hk => by rw [e1]; exact funext fun _ => upd2_nk hk
  have o1 : ∀ j, j ≠ 0 → g1 0 j = g 0 j := fun j hj => by rw [e1, upd2_nj hj]
  have w1 : VI g1 := vi_00 h (fun k a _ => k1 k a) o1
  have hI1 : zI MT g1 := by rw [e1]; exact hI.updN rfl
  have a0 : g1 0 0 = 0 := by rw [e1, upd2_at]
  have er : ∀ {x : Int32}, VI (upd2 g1 0 0 x) := fun {x} => vi_00 w1 (fun k a _ => funext fun _ => upd2_nk a) (fun j hj => upd2_nj hj)
  have p35 : ∀ La : lT, Pc (fX12_see_p35 fu g1 La) (fun _ g2 _ => VI g2) := by
    intro La
    unfold fX12_see_p35
    exact pc_cb ref_m (fun x g3 L3 e3 => pc_some (vi_00 w1 (fun k _ b => e3 k b) (fun j _ => by rw [e3 0 (by decide)])))
  by_cases c1 : isL (g1 0 1) p1
  rotate_left
  · rw [lesson0 a0 c1, cbs, if_pos rfl]
    exact pc_some er
  rw [lesson1 a0 c1, cbs, if_neg (by decide)]
  refine pc_ite (fun _ => p35 _) (fun c => ?_)
  have c : ¬ (g1 0 73).toInt = 8 := icc_neq (n := 8) rfl rfl c
  have r73 := hI1 0 73 0 8 rfl
  by_cases c2 : (0 : Int32).toInt ≤ p2.toInt ∧ p2.toInt ≤ (999 : Int32).toInt
  rotate_left
  · rw [within0 c2, cbs, if_pos rfl]
    exact p35 _
  rw [within1 c2.1 c2.2, cbs, if_neg (by decide)]
  obtain ⟨m, em⟩ : ∃ m : Nat, (g1 0 73).toInt = (m : Int) := ⟨(g1 0 73).toInt.toNat, by omega⟩
  have e2 : (2 * g1 0 73).toInt = 2 * (m : Int) := ic_mulc (m := 2) rfl em (by omega) (by omega)
  have n2 : (2 * g1 0 73).toNatClampNeg = 2 * m := by rw [nc, e2]; omega
  have n3 : (2 * g1 0 73 + 1).toNatClampNeg = 2 * m + 1 := by rw [nc, ic_addc e2 (n := 1) rfl (by omega) (by omega)]; omega
  rw [n2]
  refine pc_ck (fun _ _ => pc_st (fun g17 e17 => ?_))
  have a17 : g17 0 73 = g1 0 73 := by rw [e17, upd2_nk (by decide)]
  rw [a17, n3]
  refine pc_ck (fun _ _ => pc_st (fun g18 e18 => ?_))
  have a18 : g18 0 73 = g1 0 73 := by rw [e18, upd2_nk (by decide), a17]
  rw [a18]
  refine pc_st (fun g19 e19 => pc_some ?_)
  have k19 : ∀ k, k ≠ 0 → k ≠ 43 → g19 k = g1 k := fun k a b => by rw [e19, e18, e17]; exact funext fun _ => by rw [upd2_nk a, upd2_nk b, upd2_nk b]
  have o19 : ∀ j, j ≠ 73 → g19 0 j = g1 0 j := fun j hj => by rw [e19, upd2_nj hj, e18, upd2_nk (by decide), e17, upd2_nk (by decide)]
  have s19 : (g19 0 73).toInt = (m : Int) + 1 := by rw [e19, upd2_at, ic_addc em (n := 1) rfl (by omega) (by omega)]
  obtain ⟨h1, ⟨h2, h3, h4⟩, h5⟩ := w1
  refine ⟨vp_c h1 (k19 1 (by decide) (by decide)) (k19 2 (by decide) (by decide)) (k19 3 (by decide) (by decide)) (k19 4 (by decide) (by decide)) (k19 7 (by decide) (by decide)) (o19 1 (by decide)) (o19 3 (by decide)), ⟨?_, ?_, fun k hk => ?_⟩, fun cc => ?_⟩
  · unfold LW; rw [o19 1 (by decide), k19 12 (by decide) (by decide)]; exact h2
  · unfold AL; rw [o19 62 (by decide), k19 36 (by decide) (by decide)]; exact h3
  · rw [s19] at hk
    rw [o19 1 (by decide), e19, upd2_nk (by decide), e18, upd2_nj (by omega), e17]
    by_cases ek : k = m
    · rw [ek, upd2_at]; exact c1
    · rw [upd2_nj (by omega)]; exact h4 k (by omega)
  · rw [o19 81 (by decide)] at cc
    exact vm_c (h5 cc) (k19 48 (by decide) (by decide)) (k19 49 (by decide) (by decide)) (k19 50 (by decide) (by decide)) (o19 1 (by decide)) (o19 83 (by decide)) (o19 84 (by decide))
theorem vi_forget {fu : Nat} {g : gT} {L : lT} (h : VI g) : Pc (fX12_forget fu g L) (fun _ g2 _ => VI g2) := by
  unfold fX12_forget
  refine pc_st (fun g1 e1 => pc_st (fun g2 e2 => pc_some ?_))
  have k2 : ∀ k, k ≠ 0 → g2 k = g k := fun k hk => by rw [e2, e1]; exact funext fun _ => by rw [upd2_nk hk, upd2_nk hk]
  have o2 : ∀ j, j ≠ 73 → j ≠ 0 → g2 0 j = g 0 j := fun j a b => by rw [e2, upd2_nj a, e1, upd2_nj b]
  obtain ⟨h1, ⟨h2, h3, -⟩, h5⟩ := h
  refine ⟨vp_c h1 (k2 1 (by decide)) (k2 2 (by decide)) (k2 3 (by decide)) (k2 4 (by decide)) (k2 7 (by decide)) (o2 1 (by decide) (by decide)) (o2 3 (by decide) (by decide)), ⟨?_, ?_, fun k hk => ?_⟩, fun cc => ?_⟩
  · unfold LW; rw [o2 1 (by decide) (by decide), k2 12 (by decide)]; exact h2
  · unfold AL; rw [o2 62 (by decide) (by decide), k2 36 (by decide)]; exact h3
  · rw [e2, upd2_at] at hk
    exact absurd hk (by show ¬ (k : Int) < 0; omega)
  · rw [o2 81 (by decide) (by decide)] at cc
    exact vm_c (h5 cc) (k2 48 (by decide)) (k2 49 (by decide)) (k2 50 (by decide)) (o2 1 (by decide) (by decide)) (o2 83 (by decide) (by decide)) (o2 84 (by decide) (by decide))
theorem vi_image {fu : Nat} (hfu : 1180591620717411303424 ≤ fu) {g : gT} {L : lT} (hI : zI MT g) (h : VI g) : Pc (fX12_image fu g L) (fun _ g2 _ => VI g2) := by
  intro x g2 L2 e2
  have f2 : FW _ _ g g2 := w_fX12_image _ _ _ _ FW.refl _ _ e2
  have q1 := hI 0 1 0 12 rfl
  have q62 := hI 0 62 0 40 rfl
  have q73 := hI 0 73 0 8 rfl
  unfold fX12_image at e2
  unfold sti at e2
  obtain ⟨x1, ga, La, ea, e⟩ := cb_some e2
  obtain ⟨x2, gb, Lb, eb, e⟩ := cb_some e
  obtain ⟨x3, gc, Lc, ec, e⟩ := cb_some e
  cases e
  have ha := pc_ex (uX12_copies_12_48 fu hfu _ L) _ _ _ ea
  have hb := pc_ex (uX12_copies_36_49 fu hfu ga La) _ _ _ eb
  have hc := pc_ex (uX12_copies_43_50 fu hfu gb Lb) _ _ _ ec
  have y1 : ∀ j, j < 48 → g2 48 j = g 12 j := fun j hj => by rw [hc, cpd_ne (by decide), hb, cpd_ne (by decide), ha, cpd_at hj]; rfl
  have y2 : ∀ j, j < 80 → g2 49 j = g 36 j := fun j hj => by rw [hc, cpd_ne (by decide), hb, cpd_at hj, ha, cpd_ne (by decide)]; rfl
  have y4 : ∀ j, j < 16 → g2 50 j = g 43 j := fun j hj => by rw [hc, cpd_at hj, hb, cpd_ne (by decide), ha, cpd_ne (by decide)]; rfl
  have y3 : g2 0 83 = g 0 62 := by rw [hc, cpd_ne (by decide), hb, cpd_ne (by decide), ha, cpd_ne (by decide)]; rfl
  have y5 : g2 0 84 = g 0 73 := by rw [hc, cpd_ne (by decide), hb, cpd_ne (by decide), ha, cpd_ne (by decide)]; rfl
  obtain ⟨h1, ⟨h2, h3, h4⟩, h5⟩ := h
  have z1 : g2 0 1 = g 0 1 := f2 0 1 (by decide) (by decide)
  have kk : ∀ k, k ∉ [0, 48, 49, 50] → g2 k = g k := fun k hk => f2.c (fun hm => hk (by revert hm; simp only [List.mem_cons, List.not_mem_nil, or_false]; omega)) (fun hm => hk (by revert hm; simp only [List.map, List.mem_cons, List.not_mem_nil, or_false]; omega))
  refine ⟨vp_c h1 (kk 1 (by decide)) (kk 2 (by decide)) (kk 3 (by decide)) (kk 4 (by decide)) (kk 7 (by decide)) z1 (f2 0 3 (by decide) (by decide)), ⟨?_, ?_, ?_⟩, fun _ => ⟨fun i hi => ?_, fun k hk a b => ?_, fun k hk => ?_⟩⟩
  · unfold LW; rw [z1, kk 12 (by decide)]; exact h2
  · unfold AL; rw [f2 0 62 (by decide) (by decide), kk 36 (by decide)]; exact h3
  · unfold SN; rw [z1, f2 0 73 (by decide) (by decide), kk 43 (by decide)]; exact h4
  · rw [z1] at hi
    rw [y1 _ (by omega)]; exact h2 i hi
  · rw [y3] at hk
    rw [y2 _ (by omega)] at a b ⊢
    exact h3 k hk a b
  · rw [y5] at hk
    rw [z1, y4 _ (by omega)]; exact h4 k hk
theorem vi_restore {fu : Nat} (hfu : 1180591620717411303424 ≤ fu) {g : gT} {L : lT} (hI : zI MT g) (h : VI g) : Pc (fX12_restore fu g L) (fun _ g2 _ => VI g2) := by
  intro x g2 L2 e2
  have f2 : FW _ _ g g2 := w_fX12_restore _ _ _ _ FW.refl _ _ e2
  have q1 := hI 0 1 0 12 rfl
  have q83 := hI 0 83 0 40 rfl
  have q84 := hI 0 84 0 8 rfl
  unfold fX12_restore at e2
  unfold sti at e2
  by_cases c : g 0 81 = 0
  · have e2 : (if g 0 81 = 0 then _ else _) = some (x, (g2, L2)) := e2
    rw [if_pos c] at e2
    cases e2
    exact vi_00 h (fun k a _ => funext fun _ => upd2_nk a) (fun j hj => upd2_nj hj)
  have e2 : (if g 0 81 = 0 then _ else _) = some (x, (g2, L2)) := e2
  rw [if_neg c] at e2
  obtain ⟨x1, ga, La, ea, e⟩ := cb_some e2
  obtain ⟨x2, gb, Lb, eb, e⟩ := cb_some e
  obtain ⟨x3, gc, Lc, ec, e⟩ := cb_some e
  cases e
  have ha := pc_ex (uX12_copies_48_12 fu hfu _ L) _ _ _ ea
  have hb := pc_ex (uX12_copies_49_36 fu hfu ga La) _ _ _ eb
  have hc := pc_ex (uX12_copies_50_43 fu hfu gb Lb) _ _ _ ec
  have y1 : ∀ j, j < 48 → g2 12 j = g 48 j := fun j hj => by rw [hc, cpd_ne (by decide), hb, cpd_ne (by decide), ha, cpd_at hj]; rfl
  have y2 : ∀ j, j < 80 → g2 36 j = g 49 j := fun j hj => by rw [hc, cpd_ne (by decide), hb, cpd_at hj, ha, cpd_ne (by decide)]; rfl
  have y4 : ∀ j, j < 16 → g2 43 j = g 50 j := fun j hj => by rw [hc, cpd_at hj, hb, cpd_ne (by decide), ha, cpd_ne (by decide)]; rfl
  have y3 : g2 0 62 = g 0 83 := by rw [hc, cpd_ne (by decide), hb, cpd_ne (by decide), ha, cpd_ne (by decide)]; rfl
  have y5 : g2 0 73 = g 0 84 := by rw [hc, cpd_ne (by decide), hb, cpd_ne (by decide), ha, cpd_ne (by decide)]; rfl
  obtain ⟨h1, -, h5⟩ := h
  obtain ⟨h2, h3, h4⟩ := h5 c
  have z1 : g2 0 1 = g 0 1 := f2 0 1 (by decide) (by decide)
  have kk : ∀ k, k ∉ [0, 12, 36, 43] → g2 k = g k := fun k hk => f2.c (fun hm => hk (by revert hm; simp only [List.mem_cons, List.not_mem_nil, or_false]; omega)) (fun hm => hk (by revert hm; simp only [List.map, List.mem_cons, List.not_mem_nil, or_false]; omega))
  refine ⟨vp_c h1 (kk 1 (by decide)) (kk 2 (by decide)) (kk 3 (by decide)) (kk 4 (by decide)) (kk 7 (by decide)) z1 (f2 0 3 (by decide) (by decide)), ⟨fun i hi => ?_, fun k hk a b => ?_, fun k hk => ?_⟩, fun cc => ?_⟩
  · rw [z1] at hi
    rw [y1 _ (by omega)]; exact h2 i hi
  · rw [y3] at hk
    rw [y2 _ (by omega)] at a b ⊢
    exact h3 k hk a b
  · rw [y5] at hk
    rw [z1, y4 _ (by omega)]; exact h4 k hk
  · rw [f2 0 81 (by decide) (by decide)] at cc
    exact vm_c (h5 cc) (kk 48 (by decide)) (kk 49 (by decide)) (kk 50 (by decide)) z1 (f2 0 83 (by decide) (by decide)) (f2 0 84 (by decide) (by decide))
/-- those waited for were read up to their end -/
theorem waS_L {b : Nat → Int32} {n : Nat} {l s : Int} : ∀ {f : Nat} {acc : List Int} {P R : Nat}, waS b n l s f acc P = .ok R → R = (waL b n f acc P).2 := by
  intro f
  induction f with
  | zero => intro acc P R h; exact nomatch h
  | succ f ih =>
    intro acc P R h
    unfold waS at h
    unfold waL
    by_cases k : tK b n P = 1
    · rw [if_pos k] at h ⊢
      split at h
      · split at h
        · split at h
          · exact nomatch h
          · exact ih h
        · exact nomatch h
      · exact nomatch h
    · rw [if_neg k] at h ⊢
      split at h
      · exact nomatch h
      · split at h
        · exact nomatch h
        · cases h; rfl
theorem tlS_o {b : Nat → Int32} {n Q R : Nat} {l : Int} (h : tlS b n l Q = .ok R) : ops b n (leL b n Q).2 = .ok R := by
  unfold tlS at h
  unfold leL
  by_cases w6 : wB b n Q 6
  · rw [if_pos w6] at h ⊢
    obtain ⟨R1, e, h⟩ := bn_inv h
    rw [← waS_L e]; exact h
  · rw [if_neg w6] at h ⊢
    by_cases w7 : wB b n Q 7
    · rw [if_pos w7] at h ⊢
      obtain ⟨R1, e1, h⟩ := bn_inv h
      obtain ⟨R2, e2, h⟩ := bn_inv h
      rw [(nuS_ok e1).2] at e2
      rw [← waS_L e2]; exact h
    · rw [if_neg w7] at h ⊢
      exact h
theorem opS_v {b : Nat → Int32} {n k P Q : Nat} {hi d : Int} (h : opS b n k hi P = .ok Q) (d0 : 0 ≤ d) (d1 : d ≤ hi) : (0 ≤ opV b n k d P ∧ opV b n k d P ≤ hi) ∧ Q = opN b n k P := by
  unfold opS at h
  unfold opV opN
  by_cases w : wB b n P k
  · rw [if_pos w] at h ⊢
    rw [if_pos w]
    have c := nuS_ok h
    exact ⟨c.1.2.2, c.2⟩
  · rw [if_neg w] at h ⊢
    rw [if_neg w]
    cases h
    exact ⟨⟨d0, d1⟩, rfl⟩
/-- the numbers of a lesson that was read -/
theorem leS_v {b : Nat → Int32} {n P R : Nat} {l : Int} (h : leS b n l P = .ok R) : (0 ≤ leV b n P 3 ∧ leV b n P 3 < leV b n P 4 ∧ leV b n P 4 ≤ 999) ∧ (1 ≤ leV b n P 5 ∧ leV b n P 5 ≤ 200) ∧ (1 ≤ leV b n P 8 ∧ leV b n P 8 ≤ 99) ∧ (0 ≤ leV b n P 12 ∧ leV b n P 12 ≤ 10) ∧ (0 ≤ leV b n P 11 ∧ leV b n P 11 ≤ 99) := by
  unfold leS at h
  obtain ⟨P1, e1, h⟩ := bn_inv h
  have a1 : nuC b n 0 999 (nxI b n 1 P) := (nuS_ok e1).1
  have q1 : P1 = nxI b n 2 P := (nuS_ok e1).2
  rw [q1] at h
  obtain ⟨P2, e2, h⟩ := bn_inv h
  have a2 := (nuS_ok e2).1
  have q2 : P2 = nxI b n 3 P := (nuS_ok e2).2
  rw [q2] at h
  obtain ⟨P3, e3, h⟩ := bn_inv h
  have a3 := (nuS_ok e3).1
  have q3 : P3 = nxI b n 4 P := (nuS_ok e3).2
  rw [q3] at h
  obtain ⟨P4, e4, h⟩ := bn_inv h
  have q4 : P4 = nxI b n 5 P := (nuS_ok e4).2
  rw [q4] at h
  obtain ⟨P5, e5, h⟩ := bn_inv h
  have q5 : P5 = nxI b n 6 P := (nuS_ok e5).2
  rw [q5] at h
  obtain ⟨P6, e6, h⟩ := bn_inv h
  have a6 := (nuS_ok e6).1
  have q6 : P6 = nxI b n 7 P := (nuS_ok e6).2
  rw [q6] at h
  have h := tlS_o h
  unfold ops at h
  obtain ⟨R1, e7, h⟩ := bn_inv h
  obtain ⟨v11, q7⟩ := opS_v (d := 99) e7 (by decide) (by decide)
  rw [q7] at h
  obtain ⟨R2, e8, h⟩ := bn_inv h
  obtain ⟨v12, -⟩ := opS_v (d := 10) e8 (by decide) (by decide)
  exact ⟨⟨a1.2.2.1, a2.2.2.1, a2.2.2.2⟩, a3.2.2, a6.2.2, v12, v11⟩
theorem ho_walk {b : Nat → Int32} {n : Nat} : ∀ (f : Nat) (t : tS) (D : dT) (P : Nat) (t' : tS), hoS b n f t P = .ok t' → (0 ≤ D.2.2.1 ∧ D.2.2.1 ≤ 9) → 0 ≤ (hoD b n f t D P).2.2.1 ∧ (hoD b n f t D P).2.2.1 ≤ 9 := by
  intro f
  induction f with
  | zero => intro t D P t' h; exact nomatch h
  | succ f ih =>
    intro t D P t' h hD
    unfold hoS at h
    unfold hoD
    by_cases k0 : tK b n P = 0
    · rw [if_pos k0]; exact hD
    rw [if_neg k0] at h ⊢
    cases hli : liS b n t P with
    | error p => rw [hli] at h; exact nomatch h
    | ok q =>
      rw [hli] at h
      have h : hoS b n f q.1 q.2 = .ok t' := h
      show 0 ≤ (hoD b n f q.1 (liD b n t D P) q.2).2.2.1 ∧ (hoD b n f q.1 (liD b n t D P) q.2).2.2.1 ≤ 9
      refine ih q.1 (liD b n t D P) q.2 t' h ?_
      unfold liS at hli
      unfold liD
      split at hli
      · rename_i w
        rw [if_pos w]; exact hD
      · rename_i w5
        rw [if_neg w5]
        split at hli
        · rename_i w
          rw [if_pos w]
          unfold fnS at hli
          by_cases ct : t.2.2.1 = true
          · rw [if_pos ct] at hli; exact nomatch hli
          · rw [if_neg ct] at hli
            cases hr : nuS b n 0 9 (nx b n P) with
            | error p => rw [hr] at hli; exact nomatch hli
            | ok Q => exact (nuS_ok hr).1.2.2
        · rename_i w11
          rw [if_neg w11]
          split at hli
          · rename_i w
            rw [if_pos w]; exact hD
          · rename_i w12
            rw [if_neg w12]
            split at hli
            · rename_i w
              rw [if_pos w]; exact hD
            · exact nomatch hli
theorem vi_house {fu : Nat} (hfu : 1180591620717411303424 ≤ fu) {p1 rm : Int32} {g g2 : gT} {L L2 : lT} (hI : zI MT g) (h : VI g) (e2 : fX12_house fu p1 g L = some (rm, (g2, L2))) : VI g2 := by
  have q18 := hI 0 18 0 700 rfl
  by_cases c : 0 ≤ p1.toInt ∧ p1.toInt ≤ (g 0 18).toInt
  · obtain ⟨n, hn⟩ : ∃ n : Nat, p1.toInt = (n : Int) := ⟨p1.toInt.toNat, by omega⟩
    have y4 := pc_ex (t_house hfu (b := g 13) (n := n) (L0 := L) hI hn (by omega) (fun j hj => rfl)) _ _ _ e2
    have hl := ho_les (b := g 13) (n := n) 702 (0, 0, false, false) D0 (sk (g 13) n 0)
    have hw := ho_walk (b := g 13) (n := n) 702 (0, 0, false, false) D0 (sk (g 13) n 0)
    clear e2
    revert y4 hl hw
    generalize hoS (g 13) n 702 (0, 0, false, false) (sk (g 13) n 0) = R
    generalize hoD (g 13) n 702 (0, 0, false, false) D0 (sk (g 13) n 0) = DD
    intro y4 hl hw
    cases R with
    | error p =>
      obtain ⟨-, y2, -⟩ := y4
      exact vi_fr h y2.fw (by decide)
    | ok t =>
      obtain ⟨-, y2, y3, -, -, y6, y7, -, -, q1, q2, -⟩ := y4
      have hl := hl t rfl (fun i hi => absurd hi (Nat.not_lt_zero _))
      have hw := hw t rfl ⟨by decide, by decide⟩
      refine ⟨⟨fun i hi => ?_, by rw [q2]; exact hw⟩, ⟨fun i hi => ?_, fun k hk => ?_, fun k hk => ?_⟩, fun cc => absurd y2 cc⟩
      · obtain ⟨R, e⟩ := hl i (by omega)
        obtain ⟨m1, m2, m3, -, -, m6, -, -, -, m10, -⟩ := q1 i (by omega)
        replace m1 : (g2 1 i).toInt = leV (g 13) n (DD.1 i) 3 := m1
        replace m2 : (g2 2 i).toInt = leV (g 13) n (DD.1 i) 4 := m2
        replace m3 : (g2 3 i).toInt = leV (g 13) n (DD.1 i) 5 := m3
        replace m6 : (g2 4 i).toInt = leV (g 13) n (DD.1 i) 8 := m6
        replace m10 : (g2 7 i).toInt = leV (g 13) n (DD.1 i) 12 := m10
        obtain ⟨v1, v2, v3, v4, -⟩ := leS_v e
        rw [m1, m2, m3, m6, m10]
        exact ⟨v1, v2, v3, v4⟩
      · obtain ⟨R, e⟩ := hl i (by omega)
        obtain ⟨-, -, -, -, -, -, -, -, m9, -⟩ := q1 i (by omega)
        replace m9 : (g2 12 (36 + i)).toInt = leV (g 13) n (DD.1 i) 11 := m9
        rw [m9]; exact (leS_v e).2.2.2.2
      · rw [y6] at hk
        exact absurd hk (by show ¬ (k : Int) < 0; omega)
      · rw [y7] at hk
        exact absurd hk (by show ¬ (k : Int) < 0; omega)
  · have c' : p1.toInt < 0 ∨ (g 0 18).toInt < p1.toInt := by omega
    rw [m_refused c'] at e2
    cases e2
    refine vi_00 h (fun k a _ => funext fun _ => by rw [upd2_nk a, upd2_nk a]) (fun j hj => by rw [upd2_nj hj, upd2_nj hj])
/-- class and reference, with what holds of the numbers besides -/
def CS (g gm : gT) : Prop := CR g gm ∧ VI gm
