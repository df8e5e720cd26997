/-! ===== the class's day is a day: running over, one lesson, all ===== -/
theorem ev_t {t t' : Nat → Int32} (h : ∀ j, j ≤ 5 → t j = t' j) : ∀ {c : List Int} {k : Nat} {s : Nat → Int32}, ev t c k s = ev t' c k s := by
  intro c
  induction c with
  | nil => intro k s; rfl
  | cons x c ih =>
    intro k s
    by_cases a : -6 ≤ x
    · rw [ev_p a, ev_p a]
      by_cases b : x < 0
      · rw [if_pos b, if_pos b, h _ (by omega)]; exact ih
      · rw [if_neg b, if_neg b]; exact ih
    · by_cases b : x = -15
      · rw [ev_n b, ev_n b]; exact ih
      · rw [ev_o (by omega) b, ev_o (by omega) b]; exact ih
theorem clp_x {m v : Int32} (hm : 0 ≤ m.toInt) : (if 0 < (if v < m then v else m) then (if v < m then v else m) else 0) = clp m v := by
  unfold clp
  by_cases c : v < m
  · have c' := ic_lt.mp c
    rw [if_pos c]
    by_cases z : 0 < v
    · have z' := icc_lt (m := 0) (n := v.toInt) rfl rfl z
      rw [if_pos z, if_pos (ic_le.mpr (by show (0 : Int) ≤ _; omega)), if_pos (ic_le.mpr (by omega))]
    · have z' := icc_nlt (m := 0) (n := v.toInt) rfl rfl z
      rw [if_neg z]
      by_cases y : 0 ≤ v
      · have y' := icc_le (m := 0) (n := v.toInt) rfl rfl y
        rw [if_pos y, if_pos (ic_le.mpr (by omega))]
        exact ic_eq.mpr (by show (0 : Int) = _; omega)
      · rw [if_neg y]
  · have c' := icc_nlt (m := v.toInt) (n := m.toInt) rfl rfl c
    rw [if_neg c, if_pos (ic_le.mpr (by show (0 : Int) ≤ _; omega))]
    by_cases z : 0 < m
    · rw [if_pos z]
      by_cases y : v ≤ m
      · rw [if_pos y]
        have := ic_le.mp y
        exact ic_eq.mpr (by omega)
      · rw [if_neg y]
    · have z' := icc_nlt (m := 0) (n := m.toInt) rfl rfl z
      rw [if_neg z]
      by_cases y : v ≤ m
      · rw [if_pos y]
        have := ic_le.mp y
        exact ic_eq.mpr (by show (0 : Int) = _; omega)
      · rw [if_neg y]
        exact ic_eq.mpr (by show (0 : Int) = _; omega)
/-- what is given: by the rule in force, or as held -/
def gv (cs : Nat → List Int) (d : gT) (i : Nat) (b : Int32) : Int32 := if d 0 52 = -1 then d 12 i else ev (tl d b i) (cs (d 0 52).toInt.toNat) 0 (fun _ => 0)
theorem ou_t {cs : Nat → List Int} {n i fu : Nat} {p1 t0 : Int32} {g d : gT} {L : lT} (h : DC cs n g d) (hi : p1.toInt = (i : Int)) (ni : i < n) (ht : 0 ≤ t0.toInt) : Pc (fX1_overrun_8_les_p29 fu p1 (57 + i) t0 g L) (fun x _ _ => x = clp t0 (gv cs d i (g 43 i))) := by
  obtain ⟨⟨-, a2⟩, a3, -, -, -, ⟨a7, a7'⟩, a8, -⟩ := h
  have ei : p1.toNatClampNeg = i := by rw [nc, hi]; omega
  have pi : p1 = Int32.ofInt (i : Int) := by rw [← hi]; exact io_i.symm
  have f25 : g 25 i = d 12 i := (a3 i ni).2.1
  have f27 : g 27 i = d 12 (24 + i) := (a3 i ni).2.2.2.1
  have f3 : g (57 + i) 3 = d 1 i := (a3 i ni).1.1.1
  have f8 : g (57 + i) 8 = d 4 i := (a3 i ni).1.1.2.2.2
  unfold fX1_overrun_8_les_p29 fX1_overrun_8_les_p151 gv
  rw [ei, f25, a7]
  refine pc_ck (fun _ _ => pc_lti (fun x2 e2 => pc_ite (fun c => pc_some ?_) (fun c => ?_)))
  · rw [if_pos c, clp_x ht, e2]
  rw [if_neg c]
  refine pc_ck (fun _ _ => pc_ck (fun _ _ => pc_st (fun g4 e4 => pc_ck (fun _ _ => pc_ck (fun _ _ => pc_st (fun g5 e5 => pc_ck (fun _ _ => pc_ck (fun _ _ => pc_st (fun g6 e6 => pc_ck (fun _ _ => pc_ck (fun _ _ => pc_st (fun g7 e7 => pc_ck (fun _ _ => pc_st (fun g8 e8 => pc_ck (fun _ _ => pc_st (fun g9 e9 => ?_))))))))))))))))
  have n4 : ∀ k j, k ≠ 48 → g4 k j = g k j := fun k j hk => by rw [e4, upd2_nk hk]
  have n5 : ∀ k j, k ≠ 48 → g5 k j = g k j := fun k j hk => by rw [e5, upd2_nk hk, n4 k j hk]
  have n6 : ∀ k j, k ≠ 48 → g6 k j = g k j := fun k j hk => by rw [e6, upd2_nk hk, n5 k j hk]
  have n7 : ∀ k j, k ≠ 48 → g7 k j = g k j := fun k j hk => by rw [e7, upd2_nk hk, n6 k j hk]
  have n8 : ∀ k j, k ≠ 48 → g8 k j = g k j := fun k j hk => by rw [e8, upd2_nk hk, n7 k j hk]
  have n9 : ∀ k j, k ≠ 48 → g9 k j = g k j := fun k j hk => by rw [e9, upd2_nk hk, n8 k j hk]
  have i0 : Int32.toNatClampNeg 0 = 0 := rfl
  have i1 : Int32.toNatClampNeg 1 = 1 := rfl
  have i2 : Int32.toNatClampNeg 2 = 2 := rfl
  have i3 : Int32.toNatClampNeg 3 = 3 := rfl
  have i4 : Int32.toNatClampNeg 4 = 4 := rfl
  have i5 : Int32.toNatClampNeg 5 = 5 := rfl
  rw [i0] at e4
  rw [i1, n4 43 i (by decide), n4 _ 3 (by omega), f3] at e5
  rw [i2, n5 43 i (by decide)] at e6
  rw [i3, n6 27 i (by decide), f27] at e7
  rw [i4, n7 _ 8 (by omega), f8] at e8
  rw [i5, pi] at e9
  have htl : ∀ j, j ≤ 5 → g9 48 j = tl d (g 43 i) i j := by
    intro j hj
    rcases (by omega : j = 0 ∨ j = 1 ∨ j = 2 ∨ j = 3 ∨ j = 4 ∨ j = 5) with rfl | rfl | rfl | rfl | rfl | rfl
    · rw [e9, upd2_nj (by decide), e8, upd2_nj (by decide), e7, upd2_nj (by decide), e6, upd2_nj (by decide), e5, upd2_nj (by decide), e4, upd2_at]; rfl
    · rw [e9, upd2_nj (by decide), e8, upd2_nj (by decide), e7, upd2_nj (by decide), e6, upd2_nj (by decide), e5, upd2_at]; rfl
    · rw [e9, upd2_nj (by decide), e8, upd2_nj (by decide), e7, upd2_nj (by decide), e6, upd2_at]; rfl
    · rw [e9, upd2_nj (by decide), e8, upd2_nj (by decide), e7, upd2_at]; rfl
    · rw [e9, upd2_nj (by decide), e8, upd2_at]; rfl
    · rw [e9, upd2_at]; rfl
  have hr : 0 ≤ (d 0 52).toInt ∧ (d 0 52).toInt < (g 3 3).toInt := by
    rcases a7' with e | e
    · exact absurd e c
    · exact e
  obtain ⟨r, er⟩ : ∃ r : Nat, (d 0 52).toInt = (r : Int) := ⟨(d 0 52).toInt.toNat, by omega⟩
  have er' : (d 0 52).toInt.toNat = r := by omega
  obtain ⟨o, o1, o2, o3, o4⟩ := a8 r (by omega)
  have k19 : g9 19 = g 19 := funext fun j => n9 19 j (by decide)
  refine pc_cb (va_x (cs := cs r) (o := o) (r := r) (by rw [n9 6 11 (by decide), a7]; exact er) (by rw [n9 3 3 (by decide)]; omega) (by rw [n9 20 r (by decide)]; exact o1) (by rw [n9 20 _ (by decide)]; exact o2) (by rw [k19]; exact o3) o4) (fun x10 g11 L12 e => pc_some ?_)
  rw [clp_x ht, e, ev_t htl, er']
  rw [ev_c o4 (fun i hi => absurd hi (Nat.not_lt_zero _))]
theorem ov_e {cs : Nat → List Int} {d : gT} {i : Nat} {b : Int32} : ov cs d i b = if stb (d 0 60) i = 1 then 0 else clp (if d 0 61 = Int32.ofInt i then 180 else 60) (gv cs d i b) := rfl
theorem ou_x {cs : Nat → List Int} {n i fu : Nat} {p1 : Int32} {g d : gT} {L : lT} (h : DC cs n g d) (hi : p1.toInt = (i : Int)) (ni : i < n) : Pc (fX1_overrun_8_les fu p1 (57 + i) g L) (fun x _ _ => x = ov cs d i (g 43 i)) := by
  have pi : Int32.ofInt (i : Int) = p1 := by rw [← hi]; exact io_i
  have hs := h.2.2.2.2.2.2.2.1 i ni
  have h9 := h.2.2.2.2.2.2.2.2
  unfold fX1_overrun_8_les
  rw [ov_e]
  have es : ((g 8 8 >>> (p1 &&& 31)) &&& 1) = stb (g 8 8) i := by unfold stb; rw [pi]
  rw [es]
  refine pc_ite (fun c => pc_some ?_) (fun c => ?_)
  · rw [if_pos (hs.mp c)]
  rw [if_neg (fun e => c (hs.mpr e)), pi, h9]
  refine pc_ite (fun c1 => ?_) (fun c1 => ?_)
  · rw [if_pos c1.symm]
    exact ou_t h hi ni (by decide)
  · rw [if_neg (fun e => c1 e.symm)]
    exact ou_t h hi ni (by decide)
theorem ro_x {cs : Nat → List Int} {n i fu : Nat} {p1 : Int32} {g d : gT} {L : lT} (h : DC cs n g d) (hi : p1.toInt = (i : Int)) (ni : i < n) : Pc (fX1_runOne_8 fu p1 g L) (fun _ g1 _ => LD cs d (g1 43) (g1 44) (g1 45) (g1 46) i ∧ (∀ j, j ≠ i → g1 43 j = g 43 j ∧ g1 44 j = g 44 j ∧ g1 45 j = g 45 j ∧ g1 46 j = g 46 j)) := by
  have h0 := h
  obtain ⟨⟨-, a2⟩, a3, -, a5, -⟩ := h
  have ei : p1.toNatClampNeg = i := by rw [nc, hi]; omega
  have f4 : g (57 + i) 4 = d 2 i := (a3 i ni).1.1.2.1
  have f5 : g (57 + i) 5 = d 3 i := (a3 i ni).1.1.2.2.1
  unfold fX1_runOne_8
  rw [ei, show i % 12 = i by omega]
  refine pc_ck (fun _ _ => pc_ltn (fun q eq => ?_))
  subst eq
  refine pc_cb (be_x h0 hi ni) (fun x2 g3 L4 e3 => ?_)
  obtain ⟨y1, y2, y3⟩ := e3
  have h3 : DC cs n g3 d := h0.c (fun k h1 h2 => y3 k (by omega) (by omega) (by omega))
  refine pc_cb (pc_and (ou_x h3 hi ni) (pc_kp (w_fX1_overrun_8_les g3 fu p1 _ g3 L4 FW.refl))) (fun x6 g7 L8 e7 => ?_)
  obtain ⟨e6, f7⟩ := e7
  have k7 : ∀ k, k ≠ 21 → k ≠ 48 → g7 k = g3 k := fun k h1 h2 => f7.c (by
    intro hm
    have : k = 21 ∨ k = 48 := by simpa using hm
    omega) (by simp)
  have q7 : g7 (57 + i) = g (57 + i) := (k7 _ (by omega) (by omega)).trans (y3 _ (by omega) (by omega) (by omega))
  refine pc_ck (fun _ _ => pc_st (fun g10 e10 => pc_ck (fun _ _ => pc_ck (fun _ _ => pc_ck (fun _ _ => pc_st (fun g11 e11 => pc_some ?_))))))
  have q10 : ∀ j, g10 (57 + i) j = g (57 + i) j := fun j => by rw [e10, upd2_nk (by omega), q7]
  rw [q10, q10, f4, f5] at e11
  have b43 : g10 43 = g3 43 := by rw [e10, ← k7 43 (by decide) (by decide)]; exact funext fun _ => upd2_nk (by decide)
  have b45 : g10 45 i = x6 := by rw [e10, upd2_at]
  rw [b43, b45] at e11
  have c43 : g11 43 = g3 43 := by rw [e11, ← b43]; exact funext fun _ => upd2_nk (by decide)
  have c46 : g11 46 = g3 46 := by
    rw [e11, ← k7 46 (by decide) (by decide)]
    exact funext fun _ => by rw [upd2_nk (by decide), e10, upd2_nk (by decide)]
  have c45 : g11 45 i = x6 := by rw [e11, upd2_nk (by decide)]; exact b45
  have c44 : ∀ j, j ≠ i → g11 44 j = g 44 j := fun j hj => by
    rw [e11, upd2_nj hj, e10, upd2_nk (by decide), k7 44 (by decide) (by decide), y3 44 (by decide) (by decide) (by decide)]
  refine ⟨⟨?_, ?_, ?_⟩, fun j hj => ⟨?_, c44 j hj, ?_, ?_⟩⟩
  · rw [c43, c46]
    exact y1.c a5 ni (fun j hj => (c44 j (by omega)).symm)
  · rw [c45, c43]; exact e6
  · rw [c43, c45, e11, upd2_at]
  · rw [c43]; exact (y2 j hj).1
  · rw [e11, upd2_nk (by decide), e10, upd2_nj hj, k7 45 (by decide) (by decide), y3 45 (by decide) (by decide) (by decide)]
  · rw [c46]; exact (y2 j hj).2
theorem ro_k {fu : Nat} {p1 : Int32} {g g1 : gT} {L L1 : lT} {x : Unit} (e : fX1_runOne_8 fu p1 g L = some (x, (g1, L1))) : ∀ k, k ≠ 21 → (k < 43 ∨ 48 < k) → g1 k = g k := fun k h1 h2 => (w_fX1_runOne_8 g fu p1 g L FW.refl x (g1, L1) e).c (by
    intro hm
    have : k = 21 ∨ k = 43 ∨ k = 44 ∨ k = 45 ∨ k = 46 ∨ k = 47 ∨ k = 48 := by simpa using hm
    omega) (by simp)
/-- the lessons from the f-th on are run; those ahead stand as they were -/
def RF (cs : Nat → List Int) (d : gT) (f m : Nat) (g g1 : gT) : Prop := (∀ i, f ≤ i → i < m → LD cs d (g1 43) (g1 44) (g1 45) (g1 46) i) ∧ (∀ j, j < f → g1 43 j = g 43 j ∧ g1 44 j = g 44 j ∧ g1 45 j = g 45 j ∧ g1 46 j = g 46 j) ∧ ∀ k, k ≠ 21 → (k < 43 ∨ 48 < k) → g1 k = g k
theorem rf_s {cs : Nat → List Int} {n m f fu : Nat} {p1 : Int32} {g g' d : gT} {L : lT} (h : DC cs n g d) (hm : p1.toInt = (m : Int)) (mn : m < n) (hf : f ≤ m) (hR : RF cs d f m g g') : Pc (fX1_runOne_8 fu p1 g' L) (fun _ g1 _ => RF cs d f (m + 1) g g1) := by
  obtain ⟨r1, r2, r3⟩ := hR
  have hW := h.2.2.2.1
  intro x g1 L1 e
  have hk := ro_k e
  obtain ⟨y1, y2⟩ := ro_x (h.c r3) hm mn x g1 L1 e
  refine ⟨fun i h1 h2 => ?_, fun j hj => ?_, fun k h1 h2 => by rw [hk k h1 h2, r3 k h1 h2]⟩
  · rcases (by omega : i < m ∨ i = m) with hh | hh
    · have ne : ∀ j, j ≤ i → j ≠ m := fun j hj => by omega
      exact (r1 i h1 hh).c hW (by omega) (fun j hj => (y2 j (ne j hj)).2.1.symm) (y2 i (by omega)).1.symm (y2 i (by omega)).2.2.1.symm (y2 i (by omega)).2.2.2.symm
    · subst hh; exact y1
  · obtain ⟨a1, a2, a3, a4⟩ := y2 j (by omega)
    obtain ⟨b1, b2, b3, b4⟩ := r2 j hj
    exact ⟨a1.trans b1, a2.trans b2, a3.trans b3, a4.trans b4⟩
theorem rf_x {cs : Nat → List Int} {n f fu : Nat} {p1 : Int32} {g d : gT} {L : lT} (h : DC cs n g d) (hf : p1.toInt = (f : Int)) (fn : f ≤ n) : Pc (fX1_runFrom_8 fu p1 g L) (fun _ g1 _ => RF cs d f n g g1) := by
  unfold fX1_runFrom_8 fX1_runFrom_8_l2
  have hn := h.1
  refine pc_loop (fun v => ∃ m : Nat, v.1.toInt = (m : Int) ∧ f ≤ m ∧ m ≤ n ∧ RF cs d f m g v.2.1) (fun k2 hk v hv => ?_) ⟨f, hf, Nat.le_refl _, fn, fun i h1 h2 => by omega, fun _ _ => ⟨rfl, rfl, rfl, rfl⟩, fun _ _ _ => rfl⟩
  obtain ⟨v2, g', L'⟩ := v
  obtain ⟨m, hm, fm, mn, hR⟩ := hv
  replace hm : v2.toInt = (m : Int) := hm
  replace hR : RF cs d f m g g' := hR
  show Pc (fX1_runFrom_8_s2 fu k2 v2 g' L') _
  unfold fX1_runFrom_8_s2
  have e12 : (g' 1 2).toInt = (n : Int) := by rw [hR.2.2 1 (by decide) (by omega)]; exact hn.1
  refine pc_ite (fun c => pc_some ?_) (fun c => ?_)
  · have c := icc_le e12 hm c
    rw [show n = m by omega]; exact hR
  · have c := icc_nle e12 hm c
    refine pc_cb (rf_s h hm (by omega) fm hR) (fun x g3 L4 e3 => hk _ ⟨m + 1, ?_, by omega, by omega, e3⟩)
    show (v2 + 1).toInt = _
    rw [ic_addc hm (n := 1) rfl (by omega) (by omega)]; omega
