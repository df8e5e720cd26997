section
/-! ===== the class's day is a day: running over, one lesson, all ===== -/
theorem ev_t {t t' : Nat → Int32} (h : ∀ j, j ≤ 5 → t j = t' j) : ∀ {c : List Int} {k : Nat} {s : Nat → Int32}, ev t c k s = ev t' c k s := by
  intro c
  induction c with
  | nil => intro k s; rfl
  | cons x c ih =>
    intro k s
    by_cases a : -6 ≤ x
    · rw [ev_p a, ev_p a]
      by_cases b : x < 0
      · rw [if_pos b, if_pos b, h _ (by omega)]; exact ih
      · rw [if_neg b, if_neg b]; exact ih
    · by_cases b : x = -15
      · rw [ev_n b, ev_n b]; exact ih
      · rw [ev_o (by omega) b, ev_o (by omega) b]; exact ih
theorem clp_x {m v : Int32} (hm : 0 ≤ m.toInt) : (if 0 < (if v < m then v else m) then (if v < m then v else m) else 0) = clp m v := by
  unfold clp
  by_cases c : v < m
  · have c' := ic_lt.mp c
    rw [if_pos c]
    by_cases z : 0 < v
    · have z' := icc_lt (m := 0) (n := v.toInt) rfl rfl z
      rw [if_pos z, if_pos (ic_le.mpr (by show (0 : Int) ≤ _; omega)), if_pos (ic_le.mpr (by omega))]
    · have z' := icc_nlt (m := 0) (n := v.toInt) rfl rfl z
      rw [if_neg z]
      by_cases y : 0 ≤ v
      · have y' := icc_le (m := 0) (n := v.toInt) rfl rfl y
        rw [if_pos y, if_pos (ic_le.mpr (by omega))]
        exact ic_eq.mpr (by show (0 : Int) = _; omega)
      · rw [if_neg y]
  · have c' := icc_nlt (m := v.toInt) (n := m.toInt) rfl rfl c
    rw [if_neg c, if_pos (ic_le.mpr (by show (0 : Int) ≤ _; omega))]
    by_cases z : 0 < m
    · rw [if_pos z]
      by_cases y : v ≤ m
      · rw [if_pos y]
        have := ic_le.mp y
        exact ic_eq.mpr (by omega)
      · rw [if_neg y]
    · have z' := icc_nlt (m := 0) (n := m.toInt) rfl rfl z
      rw [if_neg z]
      by_cases y : v ≤ m
      · rw [if_pos y]
        have := ic_le.mp y
        exact ic_eq.mpr (by show (0 : Int) = _; omega)
      · rw [if_neg y]
        exact ic_eq.mpr (by show (0 : Int) = _; omega)
/-- what is given: by the rule in force, or as held -/
def gv (cs : Nat → List Int) (d : gT) (i : Nat) (b : Int32) : Int32 := if d 0 52 = -1 then d 12 i else ev (tl d b i) (cs (d 0 52).toInt.toNat) 0 (fun _ => 0)
theorem ou_t {cs : Nat → List Int} {n i fu : Nat} {p1 t0 : Int32} {g d : gT} {L : lT} (h : DC cs n g d) (hi : p1.toInt = (i : Int)) (ni : i < n) (ht : 0 ≤ t0.toInt) : Pc (fX1_overrun_8_les_p29 fu p1 (57 + i) t0 g L) (fun x _ _ => x = clp t0 (gv cs d i (g 43 i))) := by
  obtain ⟨⟨-, a2⟩, a3, -, -, -, ⟨a7, a7'⟩, a8, -⟩ := h
  have ei : p1.toNatClampNeg = i := by rw [nc, hi]; omega
  have pi : p1 = Int32.ofInt (i : Int) := by rw [← hi]; exact io_i.symm
  have f25 : g 25 i = d 12 i := (a3 i ni).2.1
  have f27 : g 27 i = d 12 (24 + i) := (a3 i ni).2.2.2.1
  have f3 : g (57 + i) 3 = d 1 i := (a3 i ni).1.1.1
  have f8 : g (57 + i) 8 = d 4 i := (a3 i ni).1.1.2.2.2
  unfold fX1_overrun_8_les_p29 fX1_overrun_8_les_p151 gv
  rw [ei, f25, a7]
  refine pc_ck (fun _ _ => pc_lti (fun x2 e2 => pc_ite (fun c => pc_some ?_) (fun c => ?_)))
  · rw [if_pos c, clp_x ht, e2]
  rw [if_neg c]
  refine pc_ck (fun _ _ => pc_ck (fun _ _ => pc_st (fun g4 e4 => pc_ck (fun _ _ => pc_ck (fun _ _ => pc_st (fun g5 e5 => pc_ck (fun _ _ => pc_ck (fun _ _ => pc_st (fun g6 e6 => pc_ck (fun _ _ => pc_ck (fun _ _ => pc_st (fun g7 e7 => pc_ck (fun _ _ => pc_st (fun g8 e8 => pc_ck (fun _ _ => pc_st (fun g9 e9 => ?_))))))))))))))))
  have n4 : ∀ k j, k ≠ 48 → g4 k j = g k j := fun k j hk => by rw [e4, upd2_nk hk]
  have n5 : ∀ k j, k ≠ 48 → g5 k j = g k j := fun k j hk => by rw [e5, upd2_nk hk, n4 k j hk]
  have n6 : ∀ k j, k ≠ 48 → g6 k j = g k j := fun k j hk => by rw [e6, upd2_nk hk, n5 k j hk]
  have n7 : ∀ k j, k ≠ 48 → g7 k j = g k j := fun k j hk => by rw [e7, upd2_nk hk, n6 k j hk]
  have n8 : ∀ k j, k ≠ 48 → g8 k j = g k j := fun k j hk => by rw [e8, upd2_nk hk, n7 k j hk]
  have n9 : ∀ k j, k ≠ 48 → g9 k j = g k j := fun k j hk => by rw [e9, upd2_nk hk, n8 k j hk]
  have i0 : Int32.toNatClampNeg 0 = 0 := rfl
  have i1 : Int32.toNatClampNeg 1 = 1 := rfl
  have i2 : Int32.toNatClampNeg 2 = 2 := rfl
  have i3 : Int32.toNatClampNeg 3 = 3 := rfl
  have i4 : Int32.toNatClampNeg 4 = 4 := rfl
  have i5 : Int32.toNatClampNeg 5 = 5 := rfl
  rw [i0] at e4
  rw [i1, n4 43 i (by decide), n4 _ 3 (by omega), f3] at e5
  rw [i2, n5 43 i (by decide)] at e6
  rw [i3, n6 27 i (by decide), f27] at e7
  rw [i4, n7 _ 8 (by omega), f8] at e8
  rw [i5, pi] at e9
  have htl : ∀ j, j ≤ 5 → g9 48 j = tl d (g 43 i) i j := by
    intro j hj
    rcases (by omega : j = 0 ∨ j = 1 ∨ j = 2 ∨ j = 3 ∨ j = 4 ∨ j = 5) with rfl | rfl | rfl | rfl | rfl | rfl
    · rw [e9, upd2_nj (by decide), e8, upd2_nj (by decide), e7, upd2_nj (by decide), e6, upd2_nj (by decide), e5, upd2_nj (by decide), e4, upd2_at]; rfl
    · rw [e9, upd2_nj (by decide), e8, upd2_nj (by decide), e7, upd2_nj (by decide), e6, upd2_nj (by decide), e5, upd2_at]; rfl
    · rw [e9, upd2_nj (by decide), e8, upd2_nj (by decide), e7, upd2_nj (by decide), e6, upd2_at]; rfl
    · rw [e9, upd2_nj (by decide), e8, upd2_nj (by decide), e7, upd2_at]; rfl
    · rw [e9, upd2_nj (by decide), e8, upd2_at]; rfl
    · rw [e9, upd2_at]; rfl
  have hr : 0 ≤ (d 0 52).toInt ∧ (d 0 52).toInt < (g 3 3).toInt := by
    rcases a7' with e | e
    · exact absurd e c
    · exact e
  obtain ⟨r, er⟩ : ∃ r : Nat, (d 0 52).toInt = (r : Int) := ⟨(d 0 52).toInt.toNat, by omega⟩
  have er' : (d 0 52).toInt.toNat = r := by omega
  obtain ⟨o, o1, o2, o3, o4⟩ := a8 r (by omega)
  have k19 : g9 19 = g 19 := funext fun j => n9 19 j (by decide)
  refine pc_cb (va_x (cs := cs r) (o := o) (r := r) (by rw [n9 6 11 (by decide), a7]; exact er) (by rw [n9 3 3 (by decide)]; omega) (by rw [n9 20 r (by decide)]; exact o1) (by rw [n9 20 _ (by decide)]; exact o2) (by rw [k19]; exact o3) o4) (fun x10 g11 L12 e => pc_some ?_)
  rw [clp_x ht, e, ev_t htl, er']
  rw [ev_c o4 (fun i hi => absurd hi (Nat.not_lt_zero _))]
theorem ov_e {cs : Nat → List Int} {d : gT} {i : Nat} {b : Int32} : ov cs d i b = if stb (d 0 60) i = 1 then 0 else clp (if d 0 61 = Int32.ofInt i then 180 else 60) (gv cs d i b) := rfl
theorem ou_x {cs : Nat → List Int} {n i fu : Nat} {p1 : Int32} {g d : gT} {L : lT} (h : DC cs n g d) (hi : p1.toInt = (i : Int)) (ni : i < n) : Pc (fX1_overrun_8_les fu p1 (57 + i) g L) (fun x _ _ => x = ov cs d i (g 43 i)) := by
  have pi : Int32.ofInt (i : Int) = p1 := by rw [← hi]; exact io_i
  have hs := h.2.2.2.2.2.2.2.1 i ni
  have h9 := h.2.2.2.2.2.2.2.2
  unfold fX1_overrun_8_les
  rw [ov_e]
  have es : ((g 8 8 >>> (p1 &&& 31)) &&& 1) = stb (g 8 8) i := by unfold stb; rw [pi]
  rw [es]
  refine pc_ite (fun c => pc_some ?_) (fun c => ?_)
  · rw [if_pos (hs.mp c)]
  rw [if_neg (fun e => c (hs.mpr e)), pi, h9]
  refine pc_ite (fun c1 => ?_) (fun c1 => ?_)
  · rw [if_pos c1.symm]
    exact ou_t h hi ni (by decide)
  · rw [if_neg (fun e => c1 e.symm)]
    exact ou_t h hi ni (by decide)
theorem ro_x {cs : Nat → List Int} {n i fu : Nat} {p1 : Int32} {g d : gT} {L : lT} (h : DC cs n g d) (hi : p1.toInt = (i : Int)) (ni : i < n) : Pc (fX1_runOne_8 fu p1 g L) (fun _ g1 _ => LD cs d (g1 43) (g1 44) (g1 45) (g1 46) i ∧ (∀ j, j ≠ i → g1 43 j = g 43 j ∧ g1 44 j = g 44 j ∧ g1 45 j = g 45 j ∧ g1 46 j = g 46 j)) := by
  have h0 := h
  obtain ⟨⟨-, a2⟩, a3, -, a5, -⟩ := h
  have ei : p1.toNatClampNeg = i := by rw [nc, hi]; omega
  have f4 : g (57 + i) 4 = d 2 i := (a3 i ni).1.1.2.1
  have f5 : g (57 + i) 5 = d 3 i := (a3 i ni).1.1.2.2.1
  unfold fX1_runOne_8
  rw [ei, show i % 12 = i by omega]
  refine pc_ck (fun _ _ => pc_ltn (fun q eq => ?_))
  subst eq
  refine pc_cb (be_x h0 hi ni) (fun x2 g3 L4 e3 => ?_)
  obtain ⟨y1, y2, y3⟩ := e3
  have h3 : DC cs n g3 d := h0.c (fun k h1 h2 => y3 k (by omega) (by omega) (by omega))
  refine pc_cb (pc_and (ou_x h3 hi ni) (pc_kp (w_fX1_overrun_8_les g3 fu p1 _ g3 L4 FW.refl))) (fun x6 g7 L8 e7 => ?_)
  obtain ⟨e6, f7⟩ := e7
  have k7 : ∀ k, k ≠ 21 → k ≠ 48 → g7 k = g3 k := fun k h1 h2 => f7.c (by
    intro hm
    have : k = 21 ∨ k = 48 := by simpa using hm
    omega) (by simp)
  have q7 : g7 (57 + i) = g (57 + i) := (k7 _ (by omega) (by omega)).trans (y3 _ (by omega) (by omega) (by omega))
  refine pc_ck (fun _ _ => pc_st (fun g10 e10 => pc_ck (fun _ _ => pc_ck (fun _ _ => pc_ck (fun _ _ => pc_st (fun g11 e11 => pc_some ?_))))))
  have q10 : ∀ j, g10 (57 + i) j = g (57 + i) j := fun j => by rw [e10, upd2_nk (by omega), q7]
  rw [q10, q10, f4, f5] at e11
  have b43 : g10 43 = g3 43 := by rw [e10, ← k7 43 (by decide) (by decide)]; exact funext fun _ => upd2_nk (by decide)
  have b45 : g10 45 i = x6 := by rw [e10, upd2_at]
  rw [b43, b45] at e11
  have c43 : g11 43 = g3 43 := by rw [e11, ← b43]; exact funext fun _ => upd2_nk (by decide)
  have c46 : g11 46 = g3 46 := by
    rw [e11, ← k7 46 (by decide) (by decide)]
    exact funext fun _ => by rw [upd2_nk (by decide), e10, upd2_nk (by decide)]
  have c45 : g11 45 i = x6 := by rw [e11, upd2_nk (by decide)]; exact b45
  have c44 : ∀ j, j ≠ i → g11 44 j = g 44 j := fun j hj => by
    rw [e11, upd2_nj hj, e10, upd2_nk (by decide), k7 44 (by decide) (by decide), y3 44 (by decide) (by decide) (by decide)]
  refine ⟨⟨?_, ?_, ?_⟩, fun j hj => ⟨?_, c44 j hj, ?_, ?_⟩⟩
  · rw [c43, c46]
    exact y1.c a5 ni (fun j hj => (c44 j (by omega)).symm)
  · rw [c45, c43]; exact e6
  · rw [c43, c45, e11, upd2_at]
  · rw [c43]; exact (y2 j hj).1
  · rw [e11, upd2_nk (by decide), e10, upd2_nj hj, k7 45 (by decide) (by decide), y3 45 (by decide) (by decide) (by decide)]
  · rw [c46]; exact (y2 j hj).2
theorem ro_k {fu : Nat} {p1 : Int32} {g g1 : gT} {L L1 : lT} {x : Unit} (e : fX1_runOne_8 fu p1 g L = some (x, (g1, L1))) : ∀ k, k ≠ 21 → (k < 43 ∨ 48 < k) → g1 k = g k := fun k h1 h2 => (w_fX1_runOne_8 g fu p1 g L FW.refl x (g1, L1) e).c (by
    intro hm
    have : k = 21 ∨ k = 43 ∨ k = 44 ∨ k = 45 ∨ k = 46 ∨ k = 47 ∨ k = 48 := by simpa using hm
    omega) (by simp)
/-- the lessons from the f-th on are run; those ahead stand as they were -/
def RF (cs : Nat → List Int) (d : gT) (f m : Nat) (g g1 : gT) : Prop := (∀ i, f ≤ i → i < m → LD cs d (g1 43) (g1 44) (g1 45) (g1 46) i) ∧ (∀ j, j < f → g1 43 j = g 43 j ∧ g1 44 j = g 44 j ∧ g1 45 j = g 45 j ∧ g1 46 j = g 46 j) ∧ ∀ k, k ≠ 21 → (k < 43 ∨ 48 < k) → g1 k = g k
theorem rf_s {cs : Nat → List Int} {n m f fu : Nat} {p1 : Int32} {g g' d : gT} {L : lT} (h : DC cs n g d) (hm : p1.toInt = (m : Int)) (mn : m < n) (hf : f ≤ m) (hR : RF cs d f m g g') : Pc (fX1_runOne_8 fu p1 g' L) (fun _ g1 _ => RF cs d f (m + 1) g g1) := by
  obtain ⟨r1, r2, r3⟩ := hR
  have hW := h.2.2.2.1
  intro x g1 L1 e
  have hk := ro_k e
  obtain ⟨y1, y2⟩ := ro_x (h.c r3) hm mn x g1 L1 e
  refine ⟨fun i h1 h2 => ?_, fun j hj => ?_, fun k h1 h2 => by rw [hk k h1 h2, r3 k h1 h2]⟩
  · rcases (by omega : i < m ∨ i = m) with hh | hh
    · have ne : ∀ j, j ≤ i → j ≠ m := fun j hj => by omega
      exact (r1 i h1 hh).c hW (by omega) (fun j hj => (y2 j (ne j hj)).2.1.symm) (y2 i (by omega)).1.symm (y2 i (by omega)).2.2.1.symm (y2 i (by omega)).2.2.2.symm
    · subst hh; exact y1
  · obtain ⟨a1, a2, a3, a4⟩ := y2 j (by omega)
    obtain ⟨b1, b2, b3, b4⟩ := r2 j hj
    exact ⟨a1.trans b1, a2.trans b2, a3.trans b3, a4.trans b4⟩
theorem rf_x {cs : Nat → List Int} {n f fu : Nat} {p1 : Int32} {g d : gT} {L : lT} (h : DC cs n g d) (hf : p1.toInt = (f : Int)) (fn : f ≤ n) : Pc (fX1_runFrom_8 fu p1 g L) (fun _ g1 _ => RF cs d f n g g1) := by
  unfold fX1_runFrom_8 fX1_runFrom_8_l2
  have hn := h.1
  refine pc_loop (fun v => ∃ m : Nat, v.1.toInt = (m : Int) ∧ f ≤ m ∧ m ≤ n ∧ RF cs d f m g v.2.1) (fun k2 hk v hv => ?_) ⟨f, hf, Nat.le_refl _, fn, fun i h1 h2 => by omega, fun _ _ => ⟨rfl, rfl, rfl, rfl⟩, fun _ _ _ => rfl⟩
  obtain ⟨v2, g', L'⟩ := v
  obtain ⟨m, hm, fm, mn, hR⟩ := hv
  replace hm : v2.toInt = (m : Int) := hm
  replace hR : RF cs d f m g g' := hR
  show Pc (fX1_runFrom_8_s2 fu k2 v2 g' L') _
  unfold fX1_runFrom_8_s2
  have e12 : (g' 1 2).toInt = (n : Int) := by rw [hR.2.2 1 (by decide) (by omega)]; exact hn.1
  refine pc_ite (fun c => pc_some ?_) (fun c => ?_)
  · have c := icc_le e12 hm c
    rw [show n = m by omega]; exact hR
  · have c := icc_nle e12 hm c
    refine pc_cb (rf_s h hm (by omega) fm hR) (fun x g3 L4 e3 => hk _ ⟨m + 1, ?_, by omega, by omega, e3⟩)
    show (v2 + 1).toInt = _
    rw [ic_addc hm (n := 1) rfl (by omega) (by omega)]; omega
end
section
/-! ===== the reference's day is a day ===== -/
def MD (cs : Nat → List Int) (n : Nat) (d : gT) : Prop := ((d 0 1).toInt = (n : Int) ∧ n ≤ 12) ∧ WF n d ∧ (∀ i, i < n → 0 ≤ (d 8 i).toInt ∧ (d 8 i).toInt ≤ 6) ∧ (d 0 52 = -1 ∨ ∃ r p : Nat, (d 0 52).toInt = (r : Int) ∧ (d 10 r).toInt = (p : Int) ∧ At (d 11) p (enc (cs r) ++ [0]) ∧ rp (cs r) 0 1)
/-- nothing but the day is written -/
def Em (d g : gT) : Prop := ∀ k, (k < 29 ∨ 35 < k) → g k = d k
theorem off_m {fu : Nat} {a b : Int32} {g : gT} {L : lT} : Pc (fX12_off fu a b g L) (fun x g1 _ => g1 = g ∧ x = off a b) := by
  unfold fX12_off fX12_off_p14 off
  refine pc_ite (fun c => pc_some ⟨rfl, ?_⟩) (fun c => pc_some ⟨rfl, ?_⟩)
  · rw [if_pos c]
  · rw [if_neg c]
theorem stair_m {fu : Nat} {a b : Int32} {g : gT} {L : lT} : Pc (fX12_isStair fu a b g L) (fun x g1 _ => g1 = g ∧ (x = 0 ↔ (5 ≤ a.toInt ↔ 5 ≤ b.toInt))) := by
  unfold fX12_isStair fX12_isStair_p10 fX12_isStair_p20 fX12_isStair_p28
  have i5 : (5 : Int32).toInt = 5 := rfl
  refine pc_ite (fun c => ?_) (fun c => ?_)
  · have c := icc_le i5 (n := a.toInt) rfl c
    refine pc_ite (fun c1 => ?_) (fun c1 => ?_)
    · have c1 := icc_le i5 (n := b.toInt) rfl c1
      rw [if_pos rfl]
      exact pc_ckb (pc_some ⟨rfl, ⟨fun _ => ⟨fun _ => c1, fun _ => c⟩, fun _ => rfl⟩⟩)
    · have c1 := icc_nle i5 (n := b.toInt) rfl c1
      rw [if_neg (by decide)]
      exact pc_ckb (pc_some ⟨rfl, ⟨fun h => absurd h (by decide), fun h => absurd (h.mp c) (by omega)⟩⟩)
  · have c := icc_nle i5 (n := a.toInt) rfl c
    refine pc_ite (fun c1 => ?_) (fun c1 => ?_)
    · have c1 := icc_le i5 (n := b.toInt) rfl c1
      rw [if_neg (by decide)]
      exact pc_ckb (pc_some ⟨rfl, ⟨fun h => absurd h (by decide), fun h => absurd (h.mpr c1) (by omega)⟩⟩)
    · have c1 := icc_nle i5 (n := b.toInt) rfl c1
      rw [if_pos rfl]
      exact pc_ckb (pc_some ⟨rfl, ⟨fun _ => ⟨fun h => absurd h (by omega), fun h => absurd h (by omega)⟩, fun _ => rfl⟩⟩)
theorem way_m {fu j i : Nat} {p1 p2 : Int32} {g d : gT} {L : lT} (e : Em d g) (hj : p1.toInt = (j : Int)) (hi : p2.toInt = (i : Int)) (j12 : j < 12) (i12 : i < 12) : Pc (fX12_way fu p1 p2 g L) (fun x g1 _ => g1 = g ∧ x = wy d j i) := by
  have ej : p1.toNatClampNeg = j := by rw [nc, hj]; omega
  have e1 : (24 + p1).toNatClampNeg = 24 + j := by rw [nc, ic_addc (m := 24) rfl hj (by omega) (by omega)]; omega
  have e2 : (24 + p2).toNatClampNeg = 24 + i := by rw [nc, ic_addc (m := 24) rfl hi (by omega) (by omega)]; omega
  unfold fX12_way fX12_way_p63 wy
  rw [ej, e1, e2, e 12 (by omega), e 0 (by omega)]
  refine pc_ck (fun _ _ => pc_lti (fun x1 q1 => pc_ck (fun _ _ => pc_lti (fun x2 q2 => pc_cb off_m (fun x3 g4 L5 q3 => pc_cb stair_m (fun x7 g8 L9 q7 => ?_))))))
  obtain ⟨rfl, q3⟩ := q3
  obtain ⟨rfl, q7⟩ := q7
  rw [q1, q2] at q7
  rw [q1, q2] at q3
  rw [e 0 (by omega), e 4 (by omega)]
  refine pc_ite (fun c => pc_some ⟨rfl, ?_⟩) (fun c => pc_ck (fun _ _ => pc_cnz (pc_some ⟨rfl, ?_⟩)))
  · rw [if_pos (q7.mp c), q3]
  · rw [if_neg (fun h => c (q7.mpr h)), q3]
theorem comes_m {fu j i : Nat} {p1 p2 : Int32} {g d : gT} {L : lT} (e : Em d g) (hj : p1.toInt = (j : Int)) (hi : p2.toInt = (i : Int)) (j12 : j < 12) (i12 : i < 12) : Pc (fX12_comes fu p1 p2 g L) (fun x g1 _ => g1 = g ∧ x = g 32 j + wy d j i - d 12 (12 + i)) := by
  have ej : p1.toNatClampNeg = j := by rw [nc, hj]; omega
  have e2 : (12 + p2).toNatClampNeg = 12 + i := by rw [nc, ic_addc (m := 12) rfl hi (by omega) (by omega)]; omega
  unfold fX12_comes
  rw [ej, e2]
  refine pc_ck (fun _ _ => pc_cb (way_m e hj hi j12 i12) (fun x1 g2 L3 q => pc_ck (fun _ _ => pc_some ?_)))
  obtain ⟨rfl, q⟩ := q
  exact ⟨rfl, by rw [q, e 12 (by omega)]⟩
theorem cn_0 {c : Nat → Int} {w : Int} : cn c 0 w = 0 := rfl
theorem cn_ins {S T : Nat → Int} {y : Nat} {v w : Int} (h1 : ∀ k, k < y → T k = S k) (h2 : T y = v) : ∀ m, y ≤ m → (∀ k, y ≤ k → k < m → T (k + 1) = S k) → cn T (m + 1) w = cn S m w + (if v ≤ w then 1 else 0) := by
  intro m
  induction m with
  | zero =>
    intro hy _
    have : y = 0 := by omega
    subst this
    rw [cn_s, h2]; rfl
  | succ m ih =>
    intro hy hk
    rcases (by omega : y ≤ m ∨ y = m + 1) with hh | hh
    · rw [cn_s, ih hh (fun k a b => hk k a (by omega)), hk m hh (by omega), cn_s]
      omega
    · subst hh
      rw [cn_s, h2, cn_c (c := T) (c' := S) (v := w) (v' := w) (fun k hk => by rw [h1 k hk])]
theorem cn_tail {c : Nat → Int} {w : Int} {a : Nat} : ∀ {n : Nat}, a ≤ n → (∀ j, a ≤ j → j < n → ¬ c j ≤ w) → cn c n w = cn c a w := by
  intro n
  induction n with
  | zero => intro h _; rw [show a = 0 by omega]
  | succ n ih =>
    intro h hk
    rcases (by omega : a ≤ n ∨ a = n + 1) with hh | hh
    · rw [cn_s, if_neg (hk n hh (by omega)), ih hh (fun j x y => hk j x (by omega))]; rfl
    · rw [hh]
theorem cn_n {c : Nat → Int} {w : Int} {a : Nat} : ∀ {n : Nat}, a ≤ n → cn c a w ≤ cn c n w := by
  intro n
  induction n with
  | zero => intro h; rw [show a = 0 by omega]; exact Nat.le_refl _
  | succ n ih =>
    intro h
    rcases (by omega : a ≤ n ∨ a = n + 1) with hh | hh
    · have := ih hh
      rw [cn_s]; omega
    · rw [hh]; exact Nat.le_refl _
/-- of a sorted row, the k-th -/
theorem kth_s {S C : Nat → Int} {n k : Nat} (h1 : 1 ≤ k) (h2 : k ≤ n) (hs : ∀ a b, a ≤ b → b < n → S a ≤ S b) (hc : ∀ w, cn S n w = cn C n w) : KTH C n k (S (k - 1)) := by
  refine ⟨?_, fun w hw => ?_⟩
  · rw [← hc]
    have a := cn_all (c := S) (v := S (k - 1)) (n := k) (fun j hj => hs j (k - 1) (by omega) (by omega))
    have b := cn_n (c := S) (w := S (k - 1)) h2
    omega
  · rw [← hc, cn_tail (a := k - 1) (by omega) (fun j a b => by have := hs (k - 1) j a b; omega)]
    have := cn_le (c := S) (v := w) (n := k - 1)
    omega
/-- by when so many are there -/
theorem there_m {cs : Nat → List Int} {n i fu : Nat} {p1 p2 : Int32} {g d : gT} {L : lT} (hM : MD cs n d) (e : Em d g) (hi : p1.toInt = (i : Int)) (ni : i < n) (k1 : 1 ≤ p2.toInt) (k2 : p2.toInt ≤ (d 8 i).toInt) : Pc (fX12_thereBy fu p1 p2 g L) (fun x g1 _ => KTH (fun k => (cmg d (g 32) i k).toInt) (d 8 i).toInt.toNat p2.toInt.toNat x.toInt ∧ ∀ k, k ≠ 35 → g1 k = g k) := by
  obtain ⟨⟨-, n12⟩, hW, h8, -⟩ := hM
  have b8 := h8 i ni
  obtain ⟨N, hN⟩ : ∃ N : Nat, (d 8 i).toInt = (N : Int) := ⟨(d 8 i).toInt.toNat, by omega⟩
  have hNn : (d 8 i).toInt.toNat = N := by omega
  have ei : p1.toNatClampNeg = i := by rw [nc, hi]; omega
  unfold fX12_thereBy
  rw [ei, e 8 (by omega), hNn]
  refine pc_ck (fun _ _ => pc_lti (fun x1 q1 => ?_))
  subst q1
  unfold fX12_thereBy_l10
  refine pc_loop (fun v => ∃ m : Nat, v.1.toInt = (m : Int) ∧ m ≤ N ∧ (∀ k, k ≠ 35 → v.2.1 k = g k) ∧ (∀ a b, a ≤ b → b < m → (v.2.1 35 a).toInt ≤ (v.2.1 35 b).toInt) ∧ ∀ w, cn (fun k => (v.2.1 35 k).toInt) m w = cn (fun k => (cmg d (g 32) i k).toInt) m w) (fun k10 hk v hv => ?_) ⟨0, rfl, by omega, fun _ _ => rfl, fun _ _ _ h => absurd h (Nat.not_lt_zero _), fun _ => cn_0.trans cn_0.symm⟩
  obtain ⟨v4, g', L'⟩ := v
  obtain ⟨m, hm, mN, zk, hs, hc⟩ := hv
  replace hm : v4.toInt = (m : Int) := hm
  replace zk : ∀ k, k ≠ 35 → g' k = g k := zk
  replace hs : ∀ a b, a ≤ b → b < m → (g' 35 a).toInt ≤ (g' 35 b).toInt := hs
  replace hc : ∀ w, cn (fun k => (g' 35 k).toInt) m w = cn (fun k => (cmg d (g 32) i k).toInt) m w := hc
  show Pc (fX12_thereBy_s10 fu p1 p2 (d 8 i) k10 v4 g' L') _
  unfold fX12_thereBy_s10
  refine pc_ite (fun c => pc_ck (fun _ _ => pc_some ⟨?_, zk⟩)) (fun c => ?_)
  · have c := icc_le hN hm c
    have em : m = N := by omega
    subst em
    have e2 : (p2 - 1).toNatClampNeg = p2.toInt.toNat - 1 := by rw [nc, ic_subc (n := 1) rfl rfl (by omega) (by omega)]; omega
    rw [e2]
    exact kth_s (S := fun k => (g' 35 k).toInt) (by omega) (by omega) hs hc
  · have c := icc_nle hN hm c
    have wm := (hW i ni).2.2 m (by omega)
    have e6 : (6 * p1).toInt = 6 * (i : Int) := ic_mulc (m := 6) rfl hi (by omega) (by omega)
    have e7 : (6 * p1 + v4).toNatClampNeg = 6 * i + m := by rw [nc, ic_addc e6 hm (by omega) (by omega)]; omega
    have ew : (v4 + 1).toInt = ((m + 1 : Nat) : Int) := by rw [ic_addc hm (n := 1) rfl (by omega) (by omega)]; omega
    have e' : Em d g' := fun k hk => by rw [zk k (by omega), e k hk]
    rw [e7, e' 9 (by omega)]
    refine pc_ck (fun _ _ => pc_cb (comes_m e' (j := wf0 d i m) (by unfold wf0; omega) hi (by unfold wf0; omega) (by omega)) (fun x3 g4 L5 q => ?_))
    obtain ⟨rfl, q⟩ := q
    rw [zk 32 (by decide)] at q
    have q : x3 = cmg d (g 32) i m := q
    -- x3 goes in
    unfold fX12_thereBy_l39
    refine pc_loop (fun v => ∃ y : Nat, v.1.toInt = (y : Int) ∧ y ≤ m ∧ (∀ k, k ≠ 35 → v.2.1 k = g k) ∧ (∀ k, k < y → v.2.1 35 k = g4 35 k) ∧ (∀ k, y ≤ k → k < m → v.2.1 35 (k + 1) = g4 35 k ∧ x3.toInt < (g4 35 k).toInt)) (fun k39 hk39 v hv => ?_) ⟨m, hm, Nat.le_refl _, zk, fun _ _ => rfl, fun k a b => by omega⟩
    obtain ⟨v6, g2, L2⟩ := v
    obtain ⟨y, hy, ym, zk2, t1, t2⟩ := hv
    replace hy : v6.toInt = (y : Int) := hy
    replace zk2 : ∀ k, k ≠ 35 → g2 k = g k := zk2
    replace t1 : ∀ k, k < y → g2 35 k = g4 35 k := t1
    replace t2 : ∀ k, y ≤ k → k < m → g2 35 (k + 1) = g4 35 k ∧ x3.toInt < (g4 35 k).toInt := t2
    have ey : v6.toNatClampNeg = y := by rw [nc, hy]; omega
    have fin : ∀ (La : lT), (0 < y → (g4 35 (y - 1)).toInt ≤ x3.toInt) → Pc (fX12_thereBy_p80 fu k10 p1 p2 (d 8 i) v4 x3 v6 g2 La) (fun x g1 _ => KTH (fun k => (cmg d (g 32) i k).toInt) N p2.toInt.toNat x.toInt ∧ ∀ k, k ≠ 35 → g1 k = g k) := by
      intro La hy0
      unfold fX12_thereBy_p80
      rw [ey]
      refine pc_ck (fun _ _ => pc_st (fun g7 e7 => hk _ ⟨m + 1, ew, by omega, fun k hk => ?_, ?_, fun w => ?_⟩))
      · show g7 k = g k
        rw [e7, ← zk2 k hk]; exact funext fun _ => upd2_nk hk
      · show ∀ a b, a ≤ b → b < m + 1 → (g7 35 a).toInt ≤ (g7 35 b).toInt
        have T1 : ∀ k, k < y → g7 35 k = g4 35 k := fun k hk => by rw [e7, upd2_nj (by omega), t1 k hk]
        have T2 : g7 35 y = x3 := by rw [e7, upd2_at]
        have T3 : ∀ k, y < k → k ≤ m → g7 35 k = g4 35 (k - 1) ∧ x3.toInt < (g4 35 (k - 1)).toInt := fun k a b => by
          have := t2 (k - 1) (by omega) (by omega)
          rw [show k - 1 + 1 = k by omega] at this
          rw [e7, upd2_nj (by omega)]; exact this
        intro a b hab hb
        rcases (by omega : a < y ∨ a = y ∨ y < a) with ha | ha | ha
        · rw [T1 a ha]
          rcases (by omega : b < y ∨ b = y ∨ y < b) with hb' | hb' | hb'
          · rw [T1 b hb']; exact hs a b hab (by omega)
          · rw [hb', T2]
            have := hs a (y - 1) (by omega) (by omega)
            have := hy0 (by omega)
            omega
          · rw [(T3 b hb' (by omega)).1]; exact hs a (b - 1) (by omega) (by omega)
        · rcases (by omega : b = y ∨ y < b) with hb' | hb'
          · rw [ha, hb']; exact Int.le_refl _
          · rw [ha, T2, (T3 b hb' (by omega)).1]
            have := (T3 b hb' (by omega)).2
            omega
        · rw [(T3 a ha (by omega)).1, (T3 b (by omega) (by omega)).1]
          exact hs (a - 1) (b - 1) (by omega) (by omega)
      · show cn (fun k => (g7 35 k).toInt) (m + 1) w = _
        rw [cn_ins (S := fun k => (g4 35 k).toInt) (y := y) (v := x3.toInt) (fun k hk => by
          show (g7 35 k).toInt = _
          rw [e7, upd2_nj (by omega), t1 k hk]) (by
          show (g7 35 y).toInt = _
          rw [e7, upd2_at]) m ym (fun k a b => by
          show (g7 35 (k + 1)).toInt = _
          rw [e7, upd2_nj (by omega), (t2 k a b).1]), hc w, cn_s, q]
    show Pc (fX12_thereBy_s39 fu k10 p1 p2 (d 8 i) v4 x3 k39 v6 g2 L2) _
    unfold fX12_thereBy_s39
    refine pc_ite (fun c1 => fin L2 (fun h => ?_)) (fun c1 => ?_)
    · have c1 := icc_le hy (n := 0) rfl c1
      omega
    have c1 := icc_nle hy (n := 0) rfl c1
    have ey1 : (v6 - 1).toNatClampNeg = y - 1 := by rw [nc, ic_subc hy (n := 1) rfl (by omega) (by omega)]; omega
    rw [ey1, ey, t1 (y - 1) (by omega)]
    refine pc_ck (fun _ _ => pc_ite (fun c2 => fin L2 (fun _ => icc_le (m := (g4 35 (y - 1)).toInt) (n := x3.toInt) rfl rfl c2)) (fun c2 => pc_ck (fun _ _ => pc_ck (fun _ _ => pc_st (fun g10 e10 => hk39 _ ⟨y - 1, ?_, by omega, fun k hk => ?_, fun k hk => ?_, fun k a b => ?_⟩)))))
    · show (v6 + (-1)).toInt = _
      rw [ic_addc hy (n := -1) rfl (by omega) (by omega)]; omega
    · show g10 k = g k
      rw [e10, ← zk2 k hk]; exact funext fun _ => upd2_nk hk
    · show g10 35 k = _
      rw [e10, upd2_nj (by omega)]; exact t1 k (by omega)
    · have c2 := icc_nle (m := (g4 35 (y - 1)).toInt) (n := x3.toInt) rfl rfl c2
      show g10 35 (k + 1) = _ ∧ _
      rcases (by omega : k = y - 1 ∨ y ≤ k) with hk' | hk'
      · subst hk'
        rw [e10, show y - 1 + 1 = y by omega, upd2_at]
        exact ⟨rfl, c2⟩
      · rw [e10, upd2_nj (by omega)]
        exact t2 k hk' b
end
section
/-! ===== the reference's day is a day: running over, all lessons ===== -/
theorem ru_t {cs : Nat → List Int} {fu i : Nat} {p1 v : Int32} {g d : gT} {L : lT} (e61 : g 0 61 = d 0 61) (pi : Int32.ofInt (i : Int) = p1) : Pc (fX12_runsOver_p117 fu p1 v g L) (fun x _ _ => x = clp (if d 0 61 = Int32.ofInt i then 180 else 60) v) := by
  unfold fX12_runsOver_p117 fX12_runsOver_p133 fX12_runsOver_p152 clp
  rw [e61, pi]
  refine pc_ite (fun c => ?_) (fun c => ?_)
  · rw [if_pos c]
    refine pc_ite (fun a => pc_ite (fun b => pc_some ?_) (fun b => pc_some ?_)) (fun a => pc_some ?_)
    · rw [if_pos a, if_pos b]
    · rw [if_pos a, if_neg b]
    · rw [if_neg a]
  · rw [if_neg c]
    refine pc_ite (fun a => pc_ite (fun b => pc_some ?_) (fun b => pc_some ?_)) (fun a => pc_some ?_)
    · rw [if_pos a, if_pos b]
    · rw [if_pos a, if_neg b]
    · rw [if_neg a]
theorem ru_m {cs : Nat → List Int} {n i fu : Nat} {p1 : Int32} {g d : gT} {L : lT} (hM : MD cs n d) (e : Em d g) (hi : p1.toInt = (i : Int)) (ni : i < n) : Pc (fX12_runsOver fu p1 g L) (fun x _ _ => x = ov cs d i (g 31 i)) := by
  obtain ⟨⟨-, n12⟩, -, -, h52⟩ := hM
  have ei : p1.toNatClampNeg = i := by rw [nc, hi]; omega
  have pi : Int32.ofInt (i : Int) = p1 := by rw [← hi]; exact io_i
  have e0 : (0 + p1).toNatClampNeg = i := by rw [nc, ic_addc (m := 0) rfl hi (by omega) (by omega)]; omega
  have e24 : (24 + p1).toNatClampNeg = 24 + i := by rw [nc, ic_addc (m := 24) rfl hi (by omega) (by omega)]; omega
  unfold fX12_runsOver
  rw [ov_e]
  have es : ((g 0 60 >>> (p1 &&& 31)) &&& 1) = stb (d 0 60) i := by unfold stb; rw [pi, e 0 (by omega)]
  rw [es, ei, e0, e24, e 12 (by omega)]
  refine pc_ite (fun c => pc_some ?_) (fun c => ?_)
  · rw [if_pos c]
  rw [if_neg c]
  unfold gv
  refine pc_ck (fun _ _ => pc_lti (fun x2 q2 => ?_))
  have i52 : g 0 52 = d 0 52 := by rw [e 0 (by omega)]
  rw [i52]
  refine pc_ite (fun c1 => ?_) (fun c1 => ?_)
  · rw [if_pos c1, ← q2]
    exact ru_t (cs := cs) (by rw [e 0 (by omega)]) pi
  rw [if_neg c1]
  refine pc_ck (fun _ _ => pc_st (fun g7 e7 => pc_ck (fun _ _ => pc_ck (fun _ _ => pc_ck (fun _ _ => pc_st (fun g8 e8 => pc_ck (fun _ _ => pc_ck (fun _ _ => pc_st (fun g9 e9 => pc_ck (fun _ _ => pc_ck (fun _ _ => pc_st (fun g10 e10 => pc_ck (fun _ _ => pc_ck (fun _ _ => pc_st (fun g11 e11 => pc_ck (fun _ _ => pc_st (fun g12 e12 => ?_)))))))))))))))))
  have n7 : ∀ k j, k ≠ 29 → g7 k j = g k j := fun k j hk => by rw [e7, upd2_nk hk]
  have n8 : ∀ k j, k ≠ 29 → g8 k j = g k j := fun k j hk => by rw [e8, upd2_nk hk, n7 k j hk]
  have n9 : ∀ k j, k ≠ 29 → g9 k j = g k j := fun k j hk => by rw [e9, upd2_nk hk, n8 k j hk]
  have n10 : ∀ k j, k ≠ 29 → g10 k j = g k j := fun k j hk => by rw [e10, upd2_nk hk, n9 k j hk]
  have n11 : ∀ k j, k ≠ 29 → g11 k j = g k j := fun k j hk => by rw [e11, upd2_nk hk, n10 k j hk]
  have n12' : ∀ k j, k ≠ 29 → g12 k j = g k j := fun k j hk => by rw [e12, upd2_nk hk, n11 k j hk]
  have i0 : Int32.toNatClampNeg 0 = 0 := rfl
  have i1 : Int32.toNatClampNeg 1 = 1 := rfl
  have i2 : Int32.toNatClampNeg 2 = 2 := rfl
  have i3 : Int32.toNatClampNeg 3 = 3 := rfl
  have i4 : Int32.toNatClampNeg 4 = 4 := rfl
  have i5 : Int32.toNatClampNeg 5 = 5 := rfl
  rw [i0, q2] at e7
  rw [i1, n7 31 i (by decide), n7 1 i (by decide), e 1 (by omega)] at e8
  rw [i2, n8 31 i (by decide)] at e9
  rw [i3, n9 12 _ (by decide), e 12 (by omega)] at e10
  rw [i4, n10 4 i (by decide), e 4 (by omega)] at e11
  rw [i5, ← pi] at e12
  have htl : ∀ j, j ≤ 5 → g12 29 j = tl d (g 31 i) i j := by
    intro j hj
    rcases (by omega : j = 0 ∨ j = 1 ∨ j = 2 ∨ j = 3 ∨ j = 4 ∨ j = 5) with rfl | rfl | rfl | rfl | rfl | rfl
    · rw [e12, upd2_nj (by decide), e11, upd2_nj (by decide), e10, upd2_nj (by decide), e9, upd2_nj (by decide), e8, upd2_nj (by decide), e7, upd2_at]; rfl
    · rw [e12, upd2_nj (by decide), e11, upd2_nj (by decide), e10, upd2_nj (by decide), e9, upd2_nj (by decide), e8, upd2_at]; rfl
    · rw [e12, upd2_nj (by decide), e11, upd2_nj (by decide), e10, upd2_nj (by decide), e9, upd2_at]; rfl
    · rw [e12, upd2_nj (by decide), e11, upd2_nj (by decide), e10, upd2_at]; rfl
    · rw [e12, upd2_nj (by decide), e11, upd2_at]; rfl
    · rw [e12, upd2_at]; rfl
  rcases h52 with c | ⟨r, p, r1, r2, r3, r4⟩
  · exact absurd c c1
  have er : (g12 0 52).toNatClampNeg = r := by rw [nc, n12' 0 52 (by decide), i52, r1]; omega
  have er' : (d 0 52).toInt.toNat = r := by omega
  rw [er, n12' 10 r (by decide), e 10 (by omega), er']
  have k11 : g12 11 = d 11 := by
    rw [← e 11 (by omega)]
    exact funext fun j => n12' 11 j (by decide)
  refine pc_ck (fun _ _ => pc_cb (pc_and (re_m (cs := cs r) (q := p) r2 (by rw [k11]; exact r3) r4) (pc_kp (w_fX12_reckons g12 fu _ g12 L FW.refl))) (fun x13 g14 L15 q => ?_))
  obtain ⟨q, f⟩ := q
  have e61 : g14 0 61 = d 0 61 := by
    rw [f 0 61 (by decide) (by decide), n12' 0 61 (by decide), e 0 (by omega)]
  rw [ev_t htl, ev_c (s' := fun _ => 0) r4 (fun i hi => absurd hi (Nat.not_lt_zero _))] at q
  rw [← q]
  exact ru_t (cs := cs) e61 pi
/-- the first m lessons are run -/
def WR (cs : Nat → List Int) (d : gT) (m : Nat) (g : gT) : Prop := DY cs d m (g 31) (g 32) (g 33) (g 34) ∧ Em d g
theorem wk_end {cs : Nat → List Int} {n m fu : Nat} {v1 v2 : Int32} {g d : gT} {L : lT} {k2 : Int32 × (Nat → Nat → Int32) × (Nat → Nat → Int64) → Option (Unit × zS)} {Q : Unit → gT → lT → Prop} (hM : MD cs n d) (hm : v1.toInt = (m : Int)) (mn : m < n) (hw : WR cs d m g) (hb : g 31 m = v2) (hl : LB d (g 32) m (g 31 m) (g 34 m)) (hk : ∀ (v : Int32) (g1 : gT) (L1 : lT), v.toInt = ((m + 1 : Nat) : Int) → WR cs d (m + 1) g1 → Pc (k2 (v, g1, L1)) Q) : Pc (fX12_works0_p199 fu k2 v1 v2 g L) Q := by
  obtain ⟨hw, e⟩ := hw
  have n12 := hM.1.2
  have hW := hM.2.1
  have ei : v1.toNatClampNeg = m := by rw [nc, hm]; omega
  have ew : (v1 + 1).toInt = ((m + 1 : Nat) : Int) := by rw [ic_addc hm (n := 1) rfl (by omega) (by omega)]; omega
  unfold fX12_works0_p199 fX12_works0_p244
  rw [ei]
  refine pc_cb (pc_and (ru_m hM e hm mn) (pc_kp (w_fX12_runsOver g fu v1 g L FW.refl))) (fun x5 g6 L7 q => ?_)
  obtain ⟨q5, f6⟩ := q
  have k6 : ∀ k, k ≠ 29 → k ≠ 30 → g6 k = g k := fun k h1 h2 => f6.c (by
    intro hm
    have : k = 29 ∨ k = 30 := by simpa using hm
    omega) (by simp)
  refine pc_ck (fun _ _ => pc_st (fun g9 e9 => pc_ck (fun _ _ => pc_ck (fun _ _ => ?_))))
  have k9 : ∀ k, k ≠ 29 → k ≠ 30 → k ≠ 33 → g9 k = g k := fun k h1 h2 h3 => by
    rw [e9, ← k6 k h1 h2]; exact funext fun _ => upd2_nk h3
  have a33 : g9 33 m = x5 := by rw [e9, upd2_at]
  have o33 : ∀ j, j ≠ m → g9 33 j = g 33 j := fun j hj => by rw [e9, upd2_nj hj, k6 33 (by decide) (by decide)]
  rw [k9 3 (by decide) (by decide) (by decide), k9 2 (by decide) (by decide) (by decide), e 3 (by omega), e 2 (by omega), a33]
  have go : ∀ t0 : Int32, t0 = (if d 2 m < v2 + d 3 m then v2 + d 3 m else d 2 m) → Pc (ck v1 12 (ck v1 12 (sti g9 32 m (t0 + x5) (fun g10 => k2 (v1 + 1, g10, L7))))) Q := by
    intro t0 ht
    refine pc_ck (fun _ _ => pc_ck (fun _ _ => pc_st (fun g10 e10 => hk _ g10 L7 ew ⟨fun i hi => ?_, fun k hk => ?_⟩)))
    · have a31 : g10 31 = g 31 := by rw [e10, ← k9 31 (by decide) (by decide) (by decide)]; exact funext fun _ => upd2_nk (by decide)
      have a34 : g10 34 = g 34 := by rw [e10, ← k9 34 (by decide) (by decide) (by decide)]; exact funext fun _ => upd2_nk (by decide)
      have b33 : g10 33 = g9 33 := by rw [e10]; exact funext fun _ => upd2_nk (by decide)
      have b32 : ∀ j, j ≠ m → g10 32 j = g 32 j := fun j hj => by rw [e10, upd2_nj hj, k9 32 (by decide) (by decide) (by decide)]
      rw [a31, a34, b33]
      rcases (by omega : i < m ∨ i = m) with hh | hh
      · exact (hw i hh).c hW (by omega) (fun j hj => (b32 j (by omega)).symm) rfl (o33 i (by omega)).symm rfl
      · subst hh
        refine ⟨hl.c hW mn (fun j hj => (b32 j (by omega)).symm), by rw [a33]; exact q5, ?_⟩
        rw [a33, e10, upd2_at, ht, hb]
    · show g10 k = d k
      rw [← e k hk, ← k9 k (by omega) (by omega) (by omega), e10]
      exact funext fun _ => upd2_nk (by omega)
  refine pc_ite (fun c => pc_ck (fun _ _ => go _ ?_)) (fun c => pc_ck (fun _ _ => go _ ?_))
  · rw [if_neg (fun h => by
      have a := ic_lt.mp h
      have b := ic_le.mp c
      omega)]
  · have c := icc_nle (m := (v2 + d 3 m).toInt) (n := (d 2 m).toInt) rfl rfl c
    rw [if_pos (ic_lt.mpr c)]
/-- what is known when a lesson begins -/
def BG (d : gT) (en : Nat → Int32) (m : Nat) (v2 v3 : Int32) : Prop := (v3 = 0 ∧ LB d en m v2 (-1)) ∨ (v3 = 1 ∧ (d 5 m).toInt ≠ 2 ∧ KTH (fun k => (cmg d en m k).toInt) (d 8 m).toInt.toNat (if (d 5 m).toInt = 0 then d 8 m else d 6 m).toInt.toNat v2.toInt ∧ (d 1 m).toInt < v2.toInt ∧ v2.toInt ≤ (d 1 m + d 12 (36 + m)).toInt)
theorem wk_by {cs : Nat → List Int} {n m fu : Nat} {v1 v2 v3 : Int32} {g d : gT} {L : lT} {k2 : Int32 × (Nat → Nat → Int32) × (Nat → Nat → Int64) → Option (Unit × zS)} {Q : Unit → gT → lT → Prop} (hM : MD cs n d) (hm : v1.toInt = (m : Int)) (mn : m < n) (hw : WR cs d m g) (hB : BG d (g 32) m v2 v3) (hk : ∀ (v : Int32) (g1 : gT) (L1 : lT), v.toInt = ((m + 1 : Nat) : Int) → WR cs d (m + 1) g1 → Pc (k2 (v, g1, L1)) Q) : Pc (fX12_works0_p118 fu k2 v1 v2 v3 g L) Q := by
  obtain ⟨hw, e⟩ := hw
  have n12 := hM.1.2
  have hW := hM.2.1
  have b8 := hM.2.2.1 m mn
  have w := hW m mn
  obtain ⟨N, hN⟩ : ∃ N : Nat, (d 8 m).toInt = (N : Int) := ⟨(d 8 m).toInt.toNat, by omega⟩
  have hNn : (d 8 m).toInt.toNat = N := by omega
  have ei : v1.toNatClampNeg = m := by rw [nc, hm]; omega
  unfold fX12_works0_p118
  rw [ei]
  refine pc_ck (fun _ _ => pc_st (fun g3 e3 => pc_ck (fun _ _ => pc_st (fun g4 e4 => ?_))))
  have k4 : ∀ k, k ≠ 31 → k ≠ 34 → g4 k = g k := fun k h1 h2 => by rw [e4, e3]; exact funext fun _ => by rw [upd2_nk h2, upd2_nk h1]
  have a31 : g4 31 m = v2 := by rw [e4, upd2_nk (by decide), e3, upd2_at]
  have o31 : ∀ j, j ≠ m → g4 31 j = g 31 j := fun j hj => by rw [e4, upd2_nk (by decide), e3, upd2_nj hj]
  have a34 : g4 34 m = -1 := by rw [e4, upd2_at]
  have o34 : ∀ j, j ≠ m → g4 34 j = g 34 j := fun j hj => by rw [e4, upd2_nj hj, e3, upd2_nk (by decide)]
  unfold fX12_works0_l135
  refine pc_loop (fun v => ∃ q : Nat, v.1.toInt = (q : Int) ∧ q ≤ N ∧ (∀ k, k ≠ 34 → v.2.1 k = g4 k) ∧ (∀ j, j ≠ m → v.2.1 34 j = g 34 j) ∧ ((v.2.1 34 m = -1 ∧ (v3 = 1 → ∀ k, k < q → cmg d (g 32) m k ≠ v2)) ∨ (v3 = 1 ∧ ∃ k, k < q ∧ v.2.1 34 m = d 9 (6 * m + k) ∧ cmg d (g 32) m k = v2 ∧ ∀ j, j < k → cmg d (g 32) m j ≠ v2))) (fun k135 hk1 v hv => ?_) ⟨0, rfl, by omega, fun _ _ => rfl, o34, Or.inl ⟨a34, fun _ k hk => absurd hk (Nat.not_lt_zero _)⟩⟩
  obtain ⟨v4, g', L'⟩ := v
  obtain ⟨q, hq, qN, zk, z34, hor⟩ := hv
  replace hq : v4.toInt = (q : Int) := hq
  replace zk : ∀ k, k ≠ 34 → g' k = g4 k := zk
  replace z34 : ∀ j, j ≠ m → g' 34 j = g 34 j := z34
  replace hor : (g' 34 m = -1 ∧ (v3 = 1 → ∀ k, k < q → cmg d (g 32) m k ≠ v2)) ∨ (v3 = 1 ∧ ∃ k, k < q ∧ g' 34 m = d 9 (6 * m + k) ∧ cmg d (g 32) m k = v2 ∧ ∀ j, j < k → cmg d (g 32) m j ≠ v2) := hor
  have zg : ∀ k, k ≠ 31 → k ≠ 34 → g' k = g k := fun k h1 h2 => by rw [zk k h2, k4 k h1 h2]
  have e' : Em d g' := fun k hk => by rw [zg k (by omega) (by omega), e k hk]
  have w' : WR cs d m g' := by
    refine ⟨fun i hi => ?_, e'⟩
    rw [zg 32 (by decide) (by decide), zg 33 (by decide) (by decide)]
    exact (hw i hi).c hW (by omega) (fun _ _ => rfl) (by rw [zk 31 (by decide), o31 i (by omega)]) rfl (z34 i (by omega)).symm
  have b31 : g' 31 m = v2 := by rw [zk 31 (by decide)]; exact a31
  have fin : ∀ La : lT, (v3 = 0 ∨ q = N) → Pc (fX12_works0_p199 fu k2 v1 v2 g' La) Q := by
    intro La hx
    refine wk_end hM hm mn w' b31 ?_ hk
    rw [b31, zg 32 (by decide) (by decide)]
    rcases hB with ⟨h0, hL⟩ | ⟨h1, h2, h3, h4, h5⟩
    · rcases hor with ⟨o1, -⟩ | ⟨o1, -⟩
      · rw [o1]; exact hL
      · rw [h0] at o1; exact absurd o1 (by decide)
    · have eq : q = N := by
        rcases hx with hx | hx
        · rw [h1] at hx; exact absurd hx (by decide)
        · exact hx
      refine Or.inr ⟨h2, v2, h3, Or.inr (Or.inr ⟨h4, h5, rfl, ?_⟩)⟩
      rcases hor with ⟨-, o2⟩ | ⟨-, k, u1, u2, u3, u4⟩
      · exfalso
        have hk1 : 1 ≤ (if (d 5 m).toInt = 0 then d 8 m else d 6 m).toInt.toNat := by
          have := w.2.1 h2
          split <;> omega
        obtain ⟨j, j1, j2⟩ := kth_mem hk1 h3
        exact o2 h1 j (by omega) (ic_eq.mpr j2)
      · exact ⟨k, by omega, u2, u3, u4⟩
  show Pc (fX12_works0_s135 fu k2 v1 v2 v3 k135 v4 g' L') _
  unfold fX12_works0_s135 fX12_works0_p193
  have e6 : (6 * v1).toInt = 6 * (m : Int) := ic_mulc (m := 6) rfl hm (by omega) (by omega)
  rw [ei, e' 8 (by omega), e' 9 (by omega)]
  refine pc_ck (fun _ _ => pc_ite (fun c => fin L' (Or.inr ?_)) (fun c => pc_ite (fun c1 => fin L' (Or.inl c1)) (fun c1 => pc_ck (fun _ _ => pc_lti (fun x14 e14 => pc_ck (fun _ _ => ?_))))))
  · have c := icc_le hN hq c
    omega
  have c := icc_nle hN hq c
  have v31 : v3 = 1 := by
    rcases hB with ⟨h0, -⟩ | ⟨h1, -⟩
    · exact absurd h0 c1
    · exact h1
  have e7 : (6 * v1 + v4).toNatClampNeg = 6 * m + q := by rw [nc, ic_addc e6 hq (by omega) (by omega)]; omega
  have eq1 : (v4 + 1).toInt = ((q + 1 : Nat) : Int) := by rw [ic_addc hq (n := 1) rfl (by omega) (by omega)]; omega
  have wq := w.2.2 q (by omega)
  rw [e7] at e14
  refine pc_ite (fun c2 => ?_) (fun c2 => hk1 _ ⟨q + 1, eq1, by omega, zk, z34, ?_⟩)
  · have o2 : ∀ k, k < q → cmg d (g 32) m k ≠ v2 := by
      rcases hor with ⟨-, o2⟩ | ⟨-, k, k1, u2, -⟩
      · exact o2 v31
      · exfalso
        rw [c2] at u2
        have := (w.2.2 k (by omega)).1
        rw [← u2] at this
        exact absurd this (by decide)
    refine pc_cb (comes_m e' (j := wf0 d m q) (by rw [e14]; unfold wf0; omega) hm (by unfold wf0; omega) (by omega)) (fun x16 g17 L18 q16 => ?_)
    obtain ⟨rfl, q16⟩ := q16
    rw [zg 32 (by decide) (by decide)] at q16
    have q16 : x16 = cmg d (g 32) m q := q16
    refine pc_ite (fun c3 => pc_ck (fun _ _ => pc_st (fun g21 e21 => hk1 _ ⟨q + 1, eq1, by omega, fun k hk => ?_, fun j hj => ?_, Or.inr ⟨v31, q, by omega, ?_, ?_, o2⟩⟩))) (fun c3 => hk1 _ ⟨q + 1, eq1, by omega, zk, z34, Or.inl ⟨c2, fun _ k hk => ?_⟩⟩)
    · show g21 k = g4 k
      rw [e21, ← zk k hk]; exact funext fun _ => upd2_nk hk
    · show g21 34 j = g 34 j
      rw [e21, upd2_nj hj]; exact z34 j hj
    · show g21 34 m = _
      rw [e21, upd2_at, e14]
    · rw [← q16]; exact c3
    · rcases (by omega : k < q ∨ k = q) with h | h
      · exact o2 k h
      · rw [h, ← q16]; exact c3
  · show (g' 34 m = -1 ∧ _) ∨ _
    rcases hor with ⟨o1, -⟩ | ⟨o1, k, k1, u⟩
    · exact absurd o1 c2
    · exact Or.inr ⟨o1, k, by omega, u⟩
theorem wk_m {cs : Nat → List Int} {n fu : Nat} {d : gT} {L : lT} (hM : MD cs n d) : Pc (fX12_works0 fu d L) (fun _ g1 _ => WR cs d n g1) := by
  unfold fX12_works0 fX12_works0_l2
  have hn := hM.1.1
  have n12 := hM.1.2
  refine pc_loop (fun v => ∃ m : Nat, v.1.toInt = (m : Int) ∧ m ≤ n ∧ WR cs d m v.2.1) (fun k2 hk v hv => ?_) ⟨0, rfl, by omega, fun i hi => absurd hi (Nat.not_lt_zero _), fun _ _ => rfl⟩
  obtain ⟨v1, g, L'⟩ := v
  obtain ⟨m, hm, mn, hw⟩ := hv
  replace hm : v1.toInt = (m : Int) := hm
  replace hw : WR cs d m g := hw
  show Pc (fX12_works0_s2 fu k2 v1 g L') _
  unfold fX12_works0_s2
  have e := hw.2
  have e01 : (g 0 1).toInt = (n : Int) := by rw [e 0 (by omega)]; exact hn
  have ei : v1.toNatClampNeg = m := by rw [nc, hm]; omega
  refine pc_ite (fun c => pc_some ?_) (fun c => ?_)
  · have c := icc_le e01 hm c
    rw [show n = m by omega]; exact hw
  have c := icc_nle e01 hm c
  have mn' : m < n := by omega
  have w := hM.2.1 m mn'
  have b8 := hM.2.2.1 m mn'
  have hk' : ∀ (v : Int32) (g1 : gT) (L1 : lT), v.toInt = ((m + 1 : Nat) : Int) → WR cs d (m + 1) g1 → Pc (k2 (v, g1, L1)) (fun _ g1 _ => WR cs d n g1) := fun v g1 L1 h1 h2 => hk (v, g1, L1) ⟨m + 1, h1, by omega, h2⟩
  have e36 : (36 + v1).toNatClampNeg = 36 + m := by rw [nc, ic_addc (m := 36) rfl hm (by omega) (by omega)]; omega
  rw [ei, e 1 (by omega), e 5 (by omega), e 8 (by omega), e 6 (by omega)]
  have p55 : ∀ (t0 : Int32) (La : lT), (d 5 m).toInt ≠ 2 → t0 = (if (d 5 m).toInt = 0 then d 8 m else d 6 m) → 1 ≤ t0.toInt → t0.toInt ≤ (d 8 m).toInt → Pc (fX12_works0_p55 fu k2 v1 (d 1 m) t0 v1 g La) (fun _ g1 _ => WR cs d n g1) := by
    intro t0 La h2 ht t1 t8
    unfold fX12_works0_p55 fX12_works0_p95 fX12_works0_p96 fX12_works0_p117
    rw [ei, e36]
    refine pc_cb (there_m hM e hm mn' t1 t8) (fun x23 g24 L25 q => ?_)
    obtain ⟨hK, zk⟩ := q
    rw [ht] at hK
    have e' : Em d g24 := fun k hk => by rw [zk k (by omega), e k hk]
    have w' : WR cs d m g24 := by
      refine ⟨?_, e'⟩
      rw [zk 31 (by decide), zk 32 (by decide), zk 33 (by decide), zk 34 (by decide)]
      exact hw.1
    rw [← zk 32 (by decide)] at hK
    rw [e' 1 (by omega), e' 12 (by omega)]
    refine pc_ck (fun _ _ => pc_ck (fun _ _ => pc_lti (fun x27 e27 => pc_ite (fun c1 => ?_) (fun c1 => ?_))))
    · rw [if_pos c1]
      have c1' := ic_le.mp c1
      exact wk_by hM hm mn' w' (Or.inl ⟨rfl, Or.inr ⟨h2, x23, hK, Or.inl ⟨c1', rfl, rfl⟩⟩⟩) hk'
    have c1' := icc_nle (m := x23.toInt) (n := (d 1 m).toInt) rfl rfl c1
    rw [if_neg c1]
    refine pc_ite (fun c2 => ?_) (fun c2 => ?_)
    · have c2 := ic_lt.mp c2
      rw [if_pos (ic_le.mpr (by omega))]
      exact wk_by hM hm mn' w' (Or.inl ⟨rfl, Or.inr ⟨h2, x23, hK, Or.inr (Or.inl ⟨c1', by rw [← e27]; exact c2, e27, rfl⟩)⟩⟩) hk'
    · have c2 := icc_nlt (m := x27.toInt) (n := x23.toInt) rfl rfl c2
      rw [if_neg c1]
      have key : Pc (fX12_works0_p118 fu k2 v1 x23 1 g24 L25) (fun _ g1 _ => WR cs d n g1) := wk_by hM hm mn' w' (Or.inr ⟨rfl, h2, hK, c1', by rw [← e27]; exact c2⟩) hk'
      refine pc_ite (fun c3 => ?_) (fun _ => key)
      have c3 := ic_le.mp c3
      rw [show x27 = x23 from ic_eq.mpr (by omega)]
      exact key
  refine pc_ck (fun _ _ => pc_lti (fun x2 e2 => pc_ck (fun _ _ => ?_)))
  subst e2
  refine pc_ite (fun c1 => ?_) (fun c1 => pc_ck (fun _ _ => pc_ite (fun c2 => pc_ck (fun _ _ => ?_)) (fun c2 => pc_ck (fun _ _ => ?_))))
  · have c1 : (d 5 m).toInt = 2 := icc_eq (n := 2) rfl rfl c1
    exact wk_by hM hm mn' hw (Or.inl ⟨rfl, Or.inl ⟨c1, rfl, rfl⟩⟩) hk'
  · have c1 : ¬ (d 5 m).toInt = 2 := icc_neq (n := 2) rfl rfl c1
    have c2 : (d 5 m).toInt = 0 := icc_eq (n := 0) rfl rfl c2
    have w1 := w.2.1 c1
    exact p55 _ L' c1 (by rw [if_pos c2]) (by omega) (by omega)
  · have c1 : ¬ (d 5 m).toInt = 2 := icc_neq (n := 2) rfl rfl c1
    have c2 : ¬ (d 5 m).toInt = 0 := icc_neq (n := 0) rfl rfl c2
    have w1 := w.2.1 c1
    exact p55 _ L' c1 (by rw [if_neg c2]) (by omega) (by omega)
end
section
/-! ===== the days of class and reference are one ===== -/
/-- rooms -/
def RR (d : gT) : Prop := ∀ i : Nat, (i : Int) < (d 0 1).toInt → 0 ≤ (d 12 (24 + i)).toInt ∧ (d 12 (24 + i)).toInt ≤ 9
theorem stb_1 : ∀ i : Nat, i < 12 → ¬ stb (-1) i = 0 := by decide
theorem stb_0 : ∀ i : Nat, i < 12 → ¬ stb 0 i = 1 := by decide
theorem dc_of {g d : gT} (hp : CP g d) (h : CD g d) (hw : WF (d 0 1).toInt.toNat d) (hr : RR d) : ∃ cs, DC cs (d 0 1).toInt.toNat g d ∧ MD cs (d 0 1).toInt.toNat d := by
  obtain ⟨-, hI, hJ, -, -, -, ⟨k1, k2, -⟩, -⟩ := hp
  obtain ⟨⟨d1, d2, d3, cs, o, p, r1, r2⟩, ⟨u1, u2, -⟩, -, -, f1, f2, f3, f4⟩ := h
  have q1 := hI 0 1 0 12 rfl
  have q2 := hI 0 2 0 4 rfl
  have q4 := hI 0 4 1 99 rfl
  have q52 := hI 0 52 (-1) 3 rfl
  have j52 := hJ.2.1
  have l8 : ∀ i, 0 ≤ (d 8 i).toInt ∧ (d 8 i).toInt ≤ 6 := fun i => hI 8 i 0 6 rfl
  have c52 : d 0 52 = -1 ∨ (0 ≤ (d 0 52).toInt ∧ (d 0 52).toInt < (d 0 2).toInt) := by
    by_cases c : (d 0 52).toInt = -1
    · exact Or.inl (ic_eq.mpr c)
    · exact Or.inr (by omega)
  refine ⟨cs, ⟨⟨by rw [k1]; omega, by omega⟩, fun i hi => ⟨d1 i (by omega), u1 i (by omega)⟩, ⟨d2, d3, q4.1⟩, hw, fun i hi => ⟨hr i (by omega), l8 i⟩, ⟨u2, by rw [k2]; exact c52⟩, fun r hr => ?_, fun i hi => ?_, by rw [f2, f4]⟩, ⟨⟨by omega, by omega⟩, hw, fun i _ => l8 i, ?_⟩⟩
  · rw [k2] at hr
    obtain ⟨a1, a2, -, -, a5⟩ := r2 r (by omega)
    exact ⟨o r, r1 r (by omega), by rw [r1 (r + 1) (by omega), a1]; omega, At_d a2, a5⟩
  · rw [f1, f3]
    exact ⟨fun h => absurd h (stb_1 i (by omega)), fun h => absurd h (stb_0 i (by omega))⟩
  · rcases c52 with c | c
    · exact Or.inl c
    · obtain ⟨-, -, a3, a4, a5⟩ := r2 (d 0 52).toInt.toNat (by omega)
      exact Or.inr ⟨(d 0 52).toInt.toNat, p (d 0 52).toInt.toNat, by omega, a3, At_i a4, a5⟩
/-- but for what was thrown -/
def E0 (d e : gT) : Prop := ∀ k j, ¬ (k = 0 ∧ j = 0) → e k j = d k j
theorem E0.k {d e : gT} (h : E0 d e) {k : Nat} (hk : k ≠ 0) : e k = d k := funext fun j => h k j (fun x => hk x.1)
theorem DC.d {cs : Nat → List Int} {n : Nat} {g d e : gT} (h : DC cs n g d) (he : E0 d e) : DC cs n g e := by
  obtain ⟨a1, a3, a4, a5, a6, a7, a8, a9, a10⟩ := h
  have w : WF n e := by
    unfold WF
    rw [he.k (show 5 ≠ 0 by decide), he.k (show 8 ≠ 0 by decide), he.k (show 6 ≠ 0 by decide), he.k (show 9 ≠ 0 by decide)]
    exact a5
  have h3 : e 0 3 = d 0 3 := he 0 3 (fun x => absurd x.2 (by decide))
  have h4 : e 0 4 = d 0 4 := he 0 4 (fun x => absurd x.2 (by decide))
  have h52 : e 0 52 = d 0 52 := he 0 52 (fun x => absurd x.2 (by decide))
  have h60 : e 0 60 = d 0 60 := he 0 60 (fun x => absurd x.2 (by decide))
  have h61 : e 0 61 = d 0 61 := he 0 61 (fun x => absurd x.2 (by decide))
  refine ⟨a1, fun i hi => ⟨(a3 i hi).1.c rfl rfl (fun k x _ => he.k (by omega)), (a3 i hi).2.c rfl rfl rfl rfl (he.k (by decide))⟩, ?_, w, ?_, ?_, a8, ?_, ?_⟩
  · rw [h3, h4]; exact a4
  · rw [he.k (show 12 ≠ 0 by decide), he.k (show 8 ≠ 0 by decide)]; exact a6
  · rw [h52]; exact a7
  · rw [h60]; exact a9
  · rw [h61]; exact a10
theorem MD.d {cs : Nat → List Int} {n : Nat} {d e : gT} (h : MD cs n d) (he : E0 d e) : MD cs n e := by
  obtain ⟨a1, a2, a3, a4⟩ := h
  unfold MD WF
  rw [he.k (show 5 ≠ 0 by decide), he.k (show 8 ≠ 0 by decide), he.k (show 6 ≠ 0 by decide), he.k (show 9 ≠ 0 by decide), he.k (show 10 ≠ 0 by decide), he.k (show 11 ≠ 0 by decide), he 0 1 (fun x => absurd x.2 (by decide)), he 0 52 (fun x => absurd x.2 (by decide))]
  exact ⟨a1, a2, a3, a4⟩
/-- the same day, in both -/
def SD (n : Nat) (g gm : gT) : Prop := ∀ i, i < n → g 43 i = gm 31 i ∧ g 44 i = gm 32 i ∧ g 45 i = gm 33 i ∧ g 46 i = gm 34 i
theorem days {cs : Nat → List Int} {n fu fv : Nat} {g d g1 g2 : gT} {L Lm L1 L2 : lT} {x y : Unit} (hX : DC cs n g d) (hM : MD cs n d) (e1 : fX1_runFrom_8 fu 0 g L = some (x, (g1, L1))) (e2 : fX12_works0 fv d Lm = some (y, (g2, L2))) : SD n g1 g2 := by
  have a := rf_x hX (f := 0) rfl (Nat.zero_le _) x g1 L1 e1
  have b := wk_m hM y g2 L2 e2
  exact DY.u hX.2.2.2.1 (fun i hi => a.1 i (Nat.zero_le _) hi) b.1
end
section
/-! ===== who waits: what a text tells ===== -/
theorem waS_w {b : Nat → Int32} {n : Nat} {l s : Int} : ∀ {f : Nat} {acc : List Int} {P R : Nat}, waS b n l s f acc P = .ok R → (∀ x ∈ acc, 0 ≤ x ∧ x < l) → 1 ≤ (waL b n f acc P).1.length ∧ s ≤ ((waL b n f acc P).1.length : Int) ∧ ∀ x ∈ (waL b n f acc P).1, 0 ≤ x ∧ x < l := by
  intro f
  induction f with
  | zero => intro acc P R h; exact nomatch h
  | succ f ih =>
    intro acc P R h ha
    unfold waS at h
    unfold waL
    by_cases k : tK b n P = 1
    · rw [if_pos k] at h ⊢
      split at h
      · split at h
        · rename_i hl
          split at h
          · exact nomatch h
          · refine ih h (fun x hx => ?_)
            rcases List.mem_append.mp hx with hx | hx
            · exact ha x hx
            · rw [List.mem_singleton.mp hx]
              exact ⟨tV_ge, hl⟩
        · exact nomatch h
      · exact nomatch h
    · rw [if_neg k] at h ⊢
      split at h
      · exact nomatch h
      · split at h
        · exact nomatch h
        · rename_i h1 h2
          exact ⟨by show 1 ≤ acc.length; omega, by show s ≤ (acc.length : Int); omega, ha⟩
/-- of a lesson that was read -/
theorem leS_w {b : Nat → Int32} {n P R : Nat} {l : Int} (h : leS b n l P = .ok R) : (leV b n P 9 = 2 → (leA b n P).length = 0) ∧ (leV b n P 9 ≠ 2 → 1 ≤ (leA b n P).length ∧ (leV b n P 9 = 0 ∨ (leV b n P 9 = 1 ∧ 1 ≤ leV b n P 10 ∧ leV b n P 10 ≤ ((leA b n P).length : Int)))) ∧ (∀ x ∈ leA b n P, 0 ≤ x ∧ x < l) := by
  unfold leS at h
  obtain ⟨P1, e1, h⟩ := bn_inv h
  obtain ⟨P2, e2, h⟩ := bn_inv h
  obtain ⟨P3, e3, h⟩ := bn_inv h
  obtain ⟨P4, e4, h⟩ := bn_inv h
  obtain ⟨P5, e5, h⟩ := bn_inv h
  obtain ⟨P6, e6, h⟩ := bn_inv h
  have q : P6 = nxI b n 7 P := by
    rw [(nuS_ok e6).2, (nuS_ok e5).2, (nuS_ok e4).2, (nuS_ok e3).2, (nuS_ok e2).2, (nuS_ok e1).2]; rfl
  rw [q] at h
  clear e1 e2 e3 e4 e5 e6 q
  have l9 : leV b n P 9 = if wB b n (nxI b n 7 P) 6 then 0 else if wB b n (nxI b n 7 P) 7 then 1 else 2 := rfl
  have l10 : leV b n P 10 = if wB b n (nxI b n 7 P) 6 then 0 else if wB b n (nxI b n 7 P) 7 then tV b n (nx b n (nxI b n 7 P)) else 0 := rfl
  have la : leA b n P = (leL b n (nxI b n 7 P)).1 := rfl
  rw [l9, l10, la]
  generalize nxI b n 7 P = Q at *
  unfold leL
  unfold tlS at h
  by_cases w6 : wB b n Q 6
  · rw [if_pos w6] at h ⊢
    rw [if_pos w6, if_pos w6]
    obtain ⟨R1, e, -⟩ := bn_inv h
    have a := waS_w e (fun x hx => absurd hx List.not_mem_nil)
    exact ⟨fun h => absurd h (by decide), fun _ => ⟨a.1, Or.inl rfl⟩, a.2.2⟩
  · rw [if_neg w6] at h ⊢
    rw [if_neg w6, if_neg w6]
    by_cases w7 : wB b n Q 7
    · rw [if_pos w7] at h ⊢
      rw [if_pos w7, if_pos w7]
      obtain ⟨R1, e1, h⟩ := bn_inv h
      obtain ⟨R2, e2, -⟩ := bn_inv h
      obtain ⟨c, e1⟩ := nuS_ok e1
      rw [e1] at e2
      have a := waS_w e2 (fun x hx => absurd hx List.not_mem_nil)
      exact ⟨fun h => absurd h (by decide), fun _ => ⟨a.1, Or.inr ⟨rfl, c.2.2.1, a.2.1⟩⟩, a.2.2⟩
    · rw [if_neg w7] at h ⊢
      rw [if_neg w7, if_neg w7]
      exact ⟨fun _ => rfl, fun h => absurd rfl h, fun x hx => absurd hx List.not_mem_nil⟩
/-- the lessons that stand were read -/
theorem ho_les {b : Nat → Int32} {n : Nat} : ∀ (f : Nat) (t : tS) (D : dT) (P : Nat) (t' : tS), hoS b n f t P = .ok t' → (∀ i, i < t.1 → ∃ R, leS b n (i : Int) (D.1 i) = .ok R) → ∀ i, i < t'.1 → ∃ R, leS b n (i : Int) ((hoD b n f t D P).1 i) = .ok R := by
  intro f
  induction f with
  | zero => intro t D P t' h; exact nomatch h
  | succ f ih =>
    intro t D P t' h hD
    unfold hoS at h
    unfold hoD
    by_cases k0 : tK b n P = 0
    · rw [if_pos k0] at h ⊢
      cases h; exact hD
    rw [if_neg k0] at h ⊢
    cases hli : liS b n t P with
    | error p => rw [hli] at h; exact nomatch h
    | ok q =>
      rw [hli] at h
      have h : hoS b n f q.1 q.2 = .ok t' := h
      show ∀ i, i < t'.1 → ∃ R, leS b n (i : Int) ((hoD b n f q.1 (liD b n t D P) q.2).1 i) = .ok R
      refine ih q.1 (liD b n t D P) q.2 t' h ?_
      have fn : ∀ {r : sR} {t1 : tS}, fnS b n r t1 = .ok q → q.1 = t1 ∧ ∃ Q, r = .ok Q := by
        intro r t1 e
        unfold fnS at e
        cases hr : r with
        | error p => rw [hr] at e; exact nomatch e
        | ok Q =>
          refine ⟨?_, Q, rfl⟩
          rw [hr] at e
          split at e
          · exact nomatch e
          · cases e; rfl
      unfold liS at hli
      unfold liD
      split at hli
      · rename_i w
        rw [if_pos w]
        obtain ⟨e1, Q, e2⟩ := fn hli
        rw [e1]
        intro i hi
        have hi : i < t.1 + 1 := hi
        show ∃ R, leS b n (i : Int) (upN D.1 t.1 P i) = .ok R
        by_cases er : i = t.1
        · rw [er, upN_at]
          split at e2
          · exact ⟨Q, e2⟩
          · exact nomatch e2
        · rw [upN_ne er]; exact hD i (by omega)
      · rename_i w5
        rw [if_neg w5]
        split at hli
        · rename_i w
          rw [if_pos w]
          obtain ⟨e1, -⟩ := fn hli
          rw [e1]; exact hD
        · rename_i w11
          rw [if_neg w11]
          split at hli
          · rename_i w
            rw [if_pos w]
            obtain ⟨e1, -⟩ := fn hli
            rw [e1]; exact hD
          · rename_i w12
            rw [if_neg w12]
            split at hli
            · rename_i w
              rw [if_pos w]
              obtain ⟨e1, -⟩ := fn hli
              rw [e1]; exact hD
            · exact nomatch hli
/-- a lesson in the reference, as it was read -/
theorem wf_les {b : Nat → Int32} {n P i R : Nat} {gm : gT} (hM : LM b n P i (fun k => gm (cpk k))) (h : leS b n (i : Int) P = .ok R) : ((gm 5 i).toInt = 2 → (gm 8 i).toInt = 0) ∧ ((gm 5 i).toInt ≠ 2 → 1 ≤ (gm 8 i).toInt ∧ ((gm 5 i).toInt = 0 ∨ ((gm 5 i).toInt = 1 ∧ 1 ≤ (gm 6 i).toInt ∧ (gm 6 i).toInt ≤ (gm 8 i).toInt))) ∧ (∀ k : Nat, (k : Int) < (gm 8 i).toInt → 0 ≤ (gm 9 (6 * i + k)).toInt ∧ (gm 9 (6 * i + k)).toInt < (i : Int)) := by
  obtain ⟨-, -, -, -, -, -, y8, y9, -, -, -, y13, y14⟩ := hM
  replace y8 : (gm 5 i).toInt = leV b n P 9 := y8
  replace y9 : (gm 6 i).toInt = leV b n P 10 := y9
  replace y13 : (gm 8 i).toInt = ((leA b n P).length : Int) := y13
  replace y14 : ∀ j (hj : j < (leA b n P).length), (gm 9 (6 * i + j)).toInt = (leA b n P)[j] := y14
  obtain ⟨a1, a2, a3⟩ := leS_w h
  rw [y8, y9, y13]
  refine ⟨fun h => by rw [a1 h]; rfl, fun h => ?_, fun k hk => ?_⟩
  · obtain ⟨u1, u2⟩ := a2 h
    exact ⟨by omega, u2⟩
  · rw [y14 k (by omega)]
    exact a3 _ (List.getElem_mem _)
end
section
/-! ===== what holds of the reference: who waits, rooms ===== -/
def RW (c : Nat) (g : gT) : Prop := ∀ i : Nat, (i : Int) < (g 0 1).toInt → 0 ≤ (g c (24 + i)).toInt ∧ (g c (24 + i)).toInt ≤ 9
def AR (m : Int) (c : Nat) (g : gT) : Prop := ∀ k : Nat, (k : Int) < m → 24 ≤ (g c (2 * k)).toInt → (g c (2 * k)).toInt ≤ 35 → 0 ≤ (g c (2 * k + 1)).toInt ∧ (g c (2 * k + 1)).toInt ≤ 9
def WI (g : gT) : Prop := WF (g 0 1).toInt.toNat g ∧ (RW 12 g ∧ AR (g 0 62).toInt 36 g) ∧ (¬ g 0 81 = 0 → RW 48 g ∧ AR (g 0 83).toInt 49 g)
theorem wf_e {n : Nat} {g g2 : gT} (h : WF n g) (e5 : g2 5 = g 5) (e6 : g2 6 = g 6) (e8 : g2 8 = g 8) (e9 : g2 9 = g 9) : WF n g2 := by
  unfold WF; rw [e5, e6, e8, e9]; exact h
/-- the fields and cells that count stand as they were -/
theorem wi_c {g g2 : gT} (h : WI g) (e5 : g2 5 = g 5) (e6 : g2 6 = g 6) (e8 : g2 8 = g 8) (e9 : g2 9 = g 9) (e12 : ∀ i : Nat, (i : Int) < (g 0 1).toInt → g2 12 (24 + i) = g 12 (24 + i)) (e36 : g2 36 = g 36) (e48 : g2 48 = g 48) (e49 : g2 49 = g 49) (e1 : g2 0 1 = g 0 1) (e62 : g2 0 62 = g 0 62) (e81 : g2 0 81 = g 0 81) (e83 : g2 0 83 = g 0 83) : WI g2 := by
  obtain ⟨h1, ⟨h2, h3⟩, h4⟩ := h
  refine ⟨by rw [e1]; exact wf_e h1 e5 e6 e8 e9, ⟨fun i hi => ?_, ?_⟩, fun c => ?_⟩
  · rw [e1] at hi
    rw [e12 i hi]; exact h2 i hi
  · unfold AR; rw [e62, e36]; exact h3
  · rw [e81] at c
    unfold RW AR
    rw [e1, e83, e48, e49]; exact h4 c
abbrev wiC : List Nat := [5, 6, 8, 9, 36, 48, 49]
abbrev wiF : List (Nat × Nat) := [(0, 1), (0, 62), (0, 81), (0, 83)]
theorem wi_fr {A : List (Nat × Nat)} {B : List Nat} {g g2 : gT} (h : WI g) (f : FW A B g g2) (o : okw (12 :: wiC) wiF A B = true) : WI g2 :=
  wi_c h (okw_c o f (by decide)) (okw_c o f (by decide)) (okw_c o f (by decide)) (okw_c o f (by decide)) (fun i _ => by rw [okw_c (k := 12) o f (by decide)]) (okw_c o f (by decide)) (okw_c o f (by decide)) (okw_c o f (by decide)) (okw_f o f (by decide)) (okw_f o f (by decide)) (okw_f o f (by decide)) (okw_f o f (by decide))
theorem wi_rs {A : List (Nat × Nat)} {B : List Nat} {g g2 : gT} (hI : zI MT g) (h : WI g) (f : FW A B g g2) (r : Rm S0 g g2) (o : okw wiC wiF A B = true) : WI g2 :=
  wi_c h (okw_c o f (by decide)) (okw_c o f (by decide)) (okw_c o f (by decide)) (okw_c o f (by decide)) (fun i hi => r 12 _ (cz_12 (by have := hI 0 1 0 12 rfl; omega)) id) (okw_c o f (by decide)) (okw_c o f (by decide)) (okw_c o f (by decide)) (okw_f o f (by decide)) (okw_f o f (by decide)) (okw_f o f (by decide)) (okw_f o f (by decide))
theorem ar_keep {g g1 : gT} {w v : Int32} (h0 : 0 ≤ (g 0 62).toInt) (h4 : (g 0 62).toInt ≤ 40) (hm : KM w v g g1) (hn : (g1 0 62).toInt = bmp (g 0 62).toInt) (h : AR (g 0 62).toInt 36 g) (new : 24 ≤ w.toInt → w.toInt ≤ 35 → 0 ≤ v.toInt ∧ v.toInt ≤ 9) : AR (g1 0 62).toInt 36 g1 := by
  obtain ⟨m1, ⟨m2, m3⟩, -, -⟩ := hm
  rw [hn, nA_b h0 h4]
  have hd : ∀ k : Nat, k < nA (g 0 62).toInt → ((k + dA (g 0 62).toInt : Nat) : Int) < (g 0 62).toInt := by
    intro k hk
    unfold nA at hk
    unfold dA
    split at hk
    · rename_i c
      rw [if_pos c]; omega
    · rename_i c
      rw [if_neg c]; omega
  intro k hk a b
  rcases (by omega : k < nA (g 0 62).toInt ∨ k = nA (g 0 62).toInt) with hh | hh
  · rw [m1 (2 * k) (by omega)] at a b
    rw [m1 (2 * k + 1) (by omega)]
    rw [show 2 * k + 2 * dA (g 0 62).toInt = 2 * (k + dA (g 0 62).toInt) by omega] at a b
    rw [show 2 * k + 1 + 2 * dA (g 0 62).toInt = 2 * (k + dA (g 0 62).toInt) + 1 by omega]
    exact h _ (hd k hh) a b
  · subst hh
    rw [m2] at a b
    rw [m3]; exact new a b
/-- an act was kept, then one cell of what is held may have changed -/
theorem wi_keep {g g1 g2 : gT} {w v : Int32} (hI : zI MT g) (h : WI g) (hm : KM w v g g1) (hn : (g1 0 62).toInt = bmp (g 0 62).toInt) (new : 24 ≤ w.toInt → w.toInt ≤ 35 → 0 ≤ v.toInt ∧ v.toInt ≤ 9) (ek : ∀ k, k ≠ 12 → k ≠ 0 → g2 k = g1 k) (e0 : ∀ j, j ≠ 52 → g2 0 j = g1 0 j) (e12 : ∀ i : Nat, (i : Int) < (g 0 1).toInt → (g2 12 (24 + i) = g 12 (24 + i) ∨ (0 ≤ (g2 12 (24 + i)).toInt ∧ (g2 12 (24 + i)).toInt ≤ 9))) : WI g2 := by
  have r := hI 0 62 0 40 rfl
  have a := ar_keep r.1 r.2 hm hn h.2.1.2 new
  obtain ⟨-, -, mk, m0⟩ := hm
  obtain ⟨h1, ⟨h2, h3⟩, h4⟩ := h
  have kk : ∀ k, k ≠ 12 → k ≠ 0 → k ≠ 36 → g2 k = g k := fun k a b c => (ek k a b).trans (mk k c b)
  have z1 : g2 0 1 = g 0 1 := (e0 1 (by decide)).trans (m0 1 (by decide))
  have z81 : g2 0 81 = g 0 81 := (e0 81 (by decide)).trans (m0 81 (by decide))
  have z83 : g2 0 83 = g 0 83 := (e0 83 (by decide)).trans (m0 83 (by decide))
  refine ⟨by rw [z1]; exact wf_e h1 (kk 5 (by decide) (by decide) (by decide)) (kk 6 (by decide) (by decide) (by decide)) (kk 8 (by decide) (by decide) (by decide)) (kk 9 (by decide) (by decide) (by decide)), ⟨fun i hi => ?_, ?_⟩, fun c => ?_⟩
  · rw [z1] at hi
    rcases e12 i hi with e | e
    · rw [e]; exact h2 i hi
    · exact e
  · unfold AR
    rw [e0 62 (by decide), ek 36 (by decide) (by decide)]; exact a
  · rw [z81] at c
    unfold RW AR
    rw [z1, z83, kk 48 (by decide) (by decide) (by decide), kk 49 (by decide) (by decide) (by decide)]; exact h4 c
/-- nothing but what was thrown and the counters -/
theorem wi_00 {g g2 : gT} (h : WI g) (ek : ∀ k, k ≠ 0 → k ≠ 14 → g2 k = g k) (e0 : ∀ j, j ≠ 0 → g2 0 j = g 0 j) : WI g2 :=
  wi_c h (ek 5 (by decide) (by decide)) (ek 6 (by decide) (by decide)) (ek 8 (by decide) (by decide)) (ek 9 (by decide) (by decide)) (fun i _ => by rw [ek 12 (by decide) (by decide)]) (ek 36 (by decide) (by decide)) (ek 48 (by decide) (by decide)) (ek 49 (by decide) (by decide)) (e0 1 (by decide)) (e0 62 (by decide)) (e0 81 (by decide)) (e0 83 (by decide))
theorem ref_m {fu : Nat} {p1 : Int32} {g : gT} {L : lT} : Pc (fX12_refuses fu p1 g L) (fun _ g1 _ => ∀ k, k ≠ 14 → g1 k = g k) := by
  unfold fX12_refuses
  exact pc_ck (fun _ _ => pc_ck (fun _ _ => pc_st (fun g1 e1 => pc_some (fun k hk => by rw [e1]; exact funext fun _ => upd2_nk hk))))
theorem wi_obey {fu : Nat} {p1 : Int32} {g : gT} {L : lT} (hI : zI MT g) (h : WI g) : Pc (fX12_obey fu p1 g L) (fun _ g2 _ => WI g2) := by
  unfold fX12_obey
  refine pc_st (fun g1 e1 => ?_)
  have k1 : ∀ k, k ≠ 0 → g1 k = g k := fun k hk => by rw [e1]; exact funext fun _ => upd2_nk hk
  have o1 : ∀ j, j ≠ 0 → g1 0 j = g 0 j := fun j hj => by rw [e1, upd2_nj hj]
  have w1 : WI g1 := wi_00 h (fun k a _ => k1 k a) o1
  have hI1 : zI MT g1 := by rw [e1]; exact hI.updN rfl
  have p18 : Pc (fX12_obey_p18 fu g1 L) (fun _ g2 _ => WI g2) := by
    unfold fX12_obey_p18 fX12_obey_p31
    refine pc_cb ref_m (fun x g3 L3 e3 => ?_)
    have w3 : WI g3 := wi_00 w1 (fun k _ b => e3 k b) (fun j _ => by rw [e3 0 (by decide)])
    exact pc_ite (fun _ => pc_ckb (pc_some w3)) (fun _ => pc_ckb (pc_some w3))
  refine pc_ite (fun _ => p18) (fun _ => pc_ite (fun _ => ?_) (fun _ => p18))
  have r := hI1 0 62 0 40 rfl
  refine pc_cb (pc_and (keeps_m r.1 r.2) (keeps_n r.1 r.2)) (fun x g10 L11 q => pc_st (fun g13 e13 => pc_ckb (pc_some ?_)))
  refine wi_keep hI1 w1 q.1 q.2 (fun _ b => absurd b (by decide)) (fun k _ b => by rw [e13]; exact funext fun _ => upd2_nk b) (fun j hj => by rw [e13, upd2_nj hj]) (fun i _ => Or.inl ?_)
  rw [e13, upd2_nk (by decide), q.1.2.2.1 12 (by decide) (by decide)]
theorem wi_become {fu : Nat} {p1 p2 p3 : Int32} {g : gT} {L : lT} (hI : zI MT g) (h : WI g) : Pc (fX12_become fu p1 p2 p3 g L) (fun _ g2 _ => WI g2) := by
  unfold fX12_become fX12_become_p22
  refine pc_st (fun g1 e1 => ?_)
  have k1 : ∀ k, k ≠ 0 → g1 k = g k := fun k hk => by rw [e1]; exact funext fun _ => upd2_nk hk
  have o1 : ∀ j, j ≠ 0 → g1 0 j = g 0 j := fun j hj => by rw [e1, upd2_nj hj]
  have w1 : WI g1 := wi_00 h (fun k a _ => k1 k a) o1
  have hI1 : zI MT g1 := by rw [e1]; exact hI.updN rfl
  have a0 : g1 0 0 = 0 := by rw [e1, upd2_at]
  have er : ∀ {x : Int32}, WI (upd2 g1 0 0 x) := fun {x} => wi_00 w1 (fun k a _ => funext fun _ => upd2_nk a) (fun j hj => upd2_nj hj)
  by_cases c1 : isL (g1 0 1) p1
  rotate_left
  · rw [lesson0 a0 c1, cbs, if_pos rfl]
    exact pc_some er
  rw [lesson1 a0 c1, cbs, if_neg (by decide)]
  by_cases c2 : 0 ≤ p2.toInt ∧ p2.toInt ≤ (3 : Int32).toInt
  rotate_left
  · rw [what0 a0 c2, cbs, if_pos rfl]
    exact pc_some er
  rw [what1 a0 c2.1 c2.2, cbs, if_neg (by decide)]
  have i3 : (3 : Int32).toInt = 3 := rfl
  have q1 := hI1 0 1 0 12 rfl
  have l := l12 c1 q1.2
  have r := hI1 0 62 0 40 rfl
  have p57 : ∀ hi : Int32, (p2.toInt = 2 → hi.toInt = 9) → Pc (fX12_become_p57 fu p1 p2 p3 hi 0 p3 g1 L) (fun _ g2 _ => WI g2) := by
    intro hi hh
    unfold fX12_become_p57
    by_cases c3 : (0 : Int32).toInt ≤ p3.toInt ∧ p3.toInt ≤ hi.toInt
    rotate_left
    · rw [within0 c3, cbs, if_pos rfl]
      exact pc_cb ref_m (fun x g3 L3 e3 => pc_some (wi_00 w1 (fun k _ b => e3 k b) (fun j _ => by rw [e3 0 (by decide)])))
    rw [within1 c3.1 c3.2, cbs, if_neg (by decide)]
    have z0 : (0 : Int32).toInt = 0 := rfl
    refine pc_lti (fun x17 e17 => pc_ck (fun _ _ => pc_lti (fun x18 e18 => pc_cb (pc_and (keeps_m r.1 r.2) (keeps_n r.1 r.2)) (fun x g20 L21 q => pc_ck (fun _ _ => pc_st (fun g23 e23 => pc_some ?_))))))
    have e12 : (12 * p2).toInt = 12 * p2.toInt := ic_mulc (m := 12) rfl rfl (by omega) (by omega)
    have ex : x17.toInt = 12 * p2.toInt + p1.toInt := by rw [e17, ic_addc e12 rfl (by omega) (by omega)]
    have exn : x17.toNatClampNeg = (12 * p2.toInt + p1.toInt).toNat := by rw [nc, ex]
    refine wi_keep hI1 w1 q.1 q.2 (fun a b => ?_) (fun k a _ => by rw [e23]; exact funext fun _ => upd2_nk a) (fun j _ => by rw [e23, upd2_nk (by decide)]) (fun i hi' => ?_)
    · have hl := w1.2.1.1 p1.toInt.toNat (by have := c1.2; omega)
      rw [e18, exn, show (12 * p2.toInt + p1.toInt).toNat = 24 + p1.toInt.toNat by omega]
      exact hl
    · rw [e23, exn]
      by_cases ei : 24 + i = (12 * p2.toInt + p1.toInt).toNat
      · rw [ei, upd2_at]
        have := hh (by omega)
        exact Or.inr (by omega)
      · rw [upd2_nj ei, q.1.2.2.1 12 (by decide) (by decide)]
        exact Or.inl rfl
  refine pc_ite (fun c => p57 _ (fun e => ?_)) (fun _ => pc_ite (fun c => p57 _ (fun e => ?_)) (fun _ => pc_ite (fun _ => p57 _ (fun _ => rfl)) (fun c => p57 _ (fun e => absurd (ic_eq.mpr e) c))))
  · rw [c] at e; exact absurd e (by decide)
  · rw [c] at e; exact absurd e (by decide)
theorem wi_undo {fu : Nat} {g : gT} {L : lT} (hI : zI MT g) (h : WI g) : Pc (fX12_undo fu g L) (fun _ g2 _ => WI g2) := by
  unfold fX12_undo fX12_undo_p89
  refine pc_st (fun g1 e1 => ?_)
  have k1 : ∀ k, k ≠ 0 → g1 k = g k := fun k hk => by rw [e1]; exact funext fun _ => upd2_nk hk
  have o1 : ∀ j, j ≠ 0 → g1 0 j = g 0 j := fun j hj => by rw [e1, upd2_nj hj]
  have w1 : WI g1 := wi_00 h (fun k a _ => k1 k a) o1
  have hI1 : zI MT g1 := by rw [e1]; exact hI.updN rfl
  have r := hI1 0 62 0 40 rfl
  refine pc_ite (fun _ => pc_some w1) (fun c => pc_st (fun g3 e3 => ?_))
  have c : ¬ (g1 0 62).toInt = 0 := icc_neq (n := 0) rfl rfl c
  have s62 : (g3 0 62).toInt = (g1 0 62).toInt - 1 := by rw [e3, upd2_at, ic_subc (n := 1) rfl rfl (by omega) (by omega)]
  have k3 : ∀ k, k ≠ 0 → g3 k = g1 k := fun k hk => by rw [e3]; exact funext fun _ => upd2_nk hk
  have o3 : ∀ j, j ≠ 62 → g3 0 j = g1 0 j := fun j hj => by rw [e3, upd2_nj hj]
  obtain ⟨m, em⟩ : ∃ m : Nat, (g3 0 62).toInt = (m : Int) := ⟨(g3 0 62).toInt.toNat, by omega⟩
  have e2 : (2 * g3 0 62).toInt = 2 * (m : Int) := ic_mulc (m := 2) rfl em (by omega) (by omega)
  have n2 : (2 * g3 0 62).toNatClampNeg = 2 * m := by rw [nc, e2]; omega
  have n3 : (2 * g3 0 62 + 1).toNatClampNeg = 2 * m + 1 := by rw [nc, ic_addc e2 (n := 1) rfl (by omega) (by omega)]; omega
  obtain ⟨h1, ⟨h2, h3⟩, h4⟩ := w1
  have fin : ∀ g6 : gT, (∀ k, k ≠ 0 → k ≠ 12 → g6 k = g3 k) → (∀ j, j ≠ 52 → g6 0 j = g3 0 j) → RW 12 g6 → WI g6 := by
    intro g6 ek e0 hR
    have kk : ∀ k, k ≠ 0 → k ≠ 12 → g6 k = g1 k := fun k a b => (ek k a b).trans (k3 k a)
    have z1 : g6 0 1 = g1 0 1 := (e0 1 (by decide)).trans (o3 1 (by decide))
    refine ⟨by rw [z1]; exact wf_e h1 (kk 5 (by decide) (by decide)) (kk 6 (by decide) (by decide)) (kk 8 (by decide) (by decide)) (kk 9 (by decide) (by decide)), ⟨hR, ?_⟩, fun cc => ?_⟩
    · unfold AR
      rw [e0 62 (by decide), kk 36 (by decide) (by decide)]
      exact fun k hk => h3 k (by omega)
    · rw [e0 81 (by decide), o3 81 (by decide)] at cc
      unfold RW AR
      rw [z1, e0 83 (by decide), o3 83 (by decide), kk 48 (by decide) (by decide), kk 49 (by decide) (by decide)]
      exact h4 cc
  rw [n2, n3]
  refine pc_ck (fun _ _ => pc_ite (fun _ => pc_ck (fun _ _ => pc_st (fun g6 e6 => pc_some (fin g6 ?_ ?_ ?_)))) (fun c2 => pc_ck (fun _ _ => pc_ck (fun _ _ => pc_ck (fun b1 b2 => pc_st (fun g5 e5 => pc_some (fin g5 ?_ ?_ ?_)))))))
  · exact fun k a _ => by rw [e6]; exact funext fun _ => upd2_nk a
  · exact fun j hj => by rw [e6, upd2_nj hj]
  · intro i hi
    rw [e6, upd2_nj (by decide), o3 1 (by decide)] at hi
    rw [e6, upd2_nk (by decide), k3 12 (by decide)]; exact h2 i hi
  · exact fun k _ b => by rw [e5]; exact funext fun _ => upd2_nk b
  · exact fun j _ => by rw [e5, upd2_nk (by decide)]
  · intro i hi
    rw [e5, upd2_nk (by decide), o3 1 (by decide)] at hi
    rw [e5]
    have q1 := hI1 0 1 0 12 rfl
    by_cases ei : 24 + i = (g3 36 (2 * m)).toNatClampNeg
    · rw [ei, upd2_at, k3 36 (by decide)]
      rw [nc, k3 36 (by decide)] at ei
      rw [k3 36 (by decide)] at b1
      exact h3 m (by omega) (by omega) (by omega)
    · rw [upd2_nj ei, k3 12 (by decide)]; exact h2 i hi
theorem wi_image {fu : Nat} (hfu : 1180591620717411303424 ≤ fu) {g : gT} {L : lT} (hI : zI MT g) (h : WI g) : Pc (fX12_image fu g L) (fun _ g2 _ => WI g2) := by
  intro x g2 L2 e2
  have f2 : FW _ _ g g2 := w_fX12_image _ _ _ _ FW.refl _ _ e2
  have q1 := hI 0 1 0 12 rfl
  have q62 := hI 0 62 0 40 rfl
  unfold fX12_image at e2
  unfold sti at e2
  obtain ⟨x1, ga, La, ea, e⟩ := cb_some e2
  obtain ⟨x2, gb, Lb, eb, e⟩ := cb_some e
  obtain ⟨x3, gc, Lc, ec, e⟩ := cb_some e
  cases e
  have ha := pc_ex (uX12_copies_12_48 fu hfu _ L) _ _ _ ea
  have hb := pc_ex (uX12_copies_36_49 fu hfu ga La) _ _ _ eb
  have hc := pc_ex (uX12_copies_43_50 fu hfu gb Lb) _ _ _ ec
  have y1 : ∀ j, j < 48 → g2 48 j = g 12 j := fun j hj => by rw [hc, cpd_ne (by decide), hb, cpd_ne (by decide), ha, cpd_at hj]; rfl
  have y2 : ∀ j, j < 80 → g2 49 j = g 36 j := fun j hj => by rw [hc, cpd_ne (by decide), hb, cpd_at hj, ha, cpd_ne (by decide)]; rfl
  have y3 : g2 0 83 = g 0 62 := by rw [hc, cpd_ne (by decide), hb, cpd_ne (by decide), ha, cpd_ne (by decide)]; rfl
  obtain ⟨h1, ⟨h2, h3⟩, h4⟩ := h
  have z1 : g2 0 1 = g 0 1 := f2 0 1 (by decide) (by decide)
  have kk : ∀ k, k ∉ [0, 48, 49, 50] → g2 k = g k := fun k hk => f2.c (fun hm => hk (by revert hm; simp only [List.mem_cons, List.not_mem_nil, or_false]; omega)) (fun hm => hk (by revert hm; simp only [List.map, List.mem_cons, List.not_mem_nil, or_false]; omega))
  refine ⟨by rw [z1]; exact wf_e h1 (kk 5 (by decide)) (kk 6 (by decide)) (kk 8 (by decide)) (kk 9 (by decide)), ⟨?_, ?_⟩, fun _ => ⟨fun i hi => ?_, fun k hk a b => ?_⟩⟩
  · unfold RW; rw [z1, kk 12 (by decide)]; exact h2
  · unfold AR; rw [f2 0 62 (by decide) (by decide), kk 36 (by decide)]; exact h3
  · rw [z1] at hi
    rw [y1 _ (by omega)]; exact h2 i hi
  · rw [y3] at hk
    rw [y2 _ (by omega)] at a b ⊢
    exact h3 k hk a b
theorem wi_restore {fu : Nat} (hfu : 1180591620717411303424 ≤ fu) {g : gT} {L : lT} (hI : zI MT g) (h : WI g) : Pc (fX12_restore fu g L) (fun _ g2 _ => WI g2) := by
  intro x g2 L2 e2
  have f2 : FW _ _ g g2 := w_fX12_restore _ _ _ _ FW.refl _ _ e2
  have q1 := hI 0 1 0 12 rfl
  have q83 := hI 0 83 0 40 rfl
  unfold fX12_restore at e2
  unfold sti at e2
  by_cases c : g 0 81 = 0
  · have e2 : (if g 0 81 = 0 then _ else _) = some (x, (g2, L2)) := e2
    rw [if_pos c] at e2
    cases e2
    exact wi_00 h (fun k a _ => funext fun _ => upd2_nk a) (fun j hj => upd2_nj hj)
  have e2 : (if g 0 81 = 0 then _ else _) = some (x, (g2, L2)) := e2
  rw [if_neg c] at e2
  obtain ⟨x1, ga, La, ea, e⟩ := cb_some e2
  obtain ⟨x2, gb, Lb, eb, e⟩ := cb_some e
  obtain ⟨x3, gc, Lc, ec, e⟩ := cb_some e
  cases e
  have ha := pc_ex (uX12_copies_48_12 fu hfu _ L) _ _ _ ea
  have hb := pc_ex (uX12_copies_49_36 fu hfu ga La) _ _ _ eb
  have hc := pc_ex (uX12_copies_50_43 fu hfu gb Lb) _ _ _ ec
  have y1 : ∀ j, j < 48 → g2 12 j = g 48 j := fun j hj => by rw [hc, cpd_ne (by decide), hb, cpd_ne (by decide), ha, cpd_at hj]; rfl
  have y2 : ∀ j, j < 80 → g2 36 j = g 49 j := fun j hj => by rw [hc, cpd_ne (by decide), hb, cpd_at hj, ha, cpd_ne (by decide)]; rfl
  have y3 : g2 0 62 = g 0 83 := by rw [hc, cpd_ne (by decide), hb, cpd_ne (by decide), ha, cpd_ne (by decide)]; rfl
  obtain ⟨h1, -, h4⟩ := h
  obtain ⟨h2, h3⟩ := h4 c
  have z1 : g2 0 1 = g 0 1 := f2 0 1 (by decide) (by decide)
  have kk : ∀ k, k ∉ [0, 12, 36, 43] → g2 k = g k := fun k hk => f2.c (fun hm => hk (by revert hm; simp only [List.mem_cons, List.not_mem_nil, or_false]; omega)) (fun hm => hk (by revert hm; simp only [List.map, List.mem_cons, List.not_mem_nil, or_false]; omega))
  refine ⟨by rw [z1]; exact wf_e h1 (kk 5 (by decide)) (kk 6 (by decide)) (kk 8 (by decide)) (kk 9 (by decide)), ⟨fun i hi => ?_, fun k hk a b => ?_⟩, fun cc => ?_⟩
  · rw [z1] at hi
    rw [y1 _ (by omega)]; exact h2 i hi
  · rw [y3] at hk
    rw [y2 _ (by omega)] at a b ⊢
    exact h3 k hk a b
  · rw [f2 0 81 (by decide) (by decide)] at cc
    unfold RW AR
    rw [z1, f2 0 83 (by decide) (by decide), kk 48 (by decide), kk 49 (by decide)]
    exact h4 cc
theorem leS_r {b : Nat → Int32} {n P R : Nat} {l : Int} (h : leS b n l P = .ok R) : 0 ≤ leV b n P 7 ∧ leV b n P 7 ≤ 9 := by
  unfold leS at h
  obtain ⟨P1, e1, h⟩ := bn_inv h
  obtain ⟨P2, e2, h⟩ := bn_inv h
  obtain ⟨P3, e3, h⟩ := bn_inv h
  obtain ⟨P4, e4, h⟩ := bn_inv h
  obtain ⟨P5, e5, h⟩ := bn_inv h
  have q : P4 = nxI b n 5 P := by
    rw [(nuS_ok e4).2, (nuS_ok e3).2, (nuS_ok e2).2, (nuS_ok e1).2]; rfl
  rw [q] at e5
  exact (nuS_ok e5).1.2.2
theorem wi_house {fu : Nat} (hfu : 1180591620717411303424 ≤ fu) {p1 rm : Int32} {g g2 : gT} {L L2 : lT} (hI : zI MT g) (h : WI g) (e2 : fX12_house fu p1 g L = some (rm, (g2, L2))) : WI g2 := by
  have q18 := hI 0 18 0 700 rfl
  by_cases c : 0 ≤ p1.toInt ∧ p1.toInt ≤ (g 0 18).toInt
  · obtain ⟨n, hn⟩ : ∃ n : Nat, p1.toInt = (n : Int) := ⟨p1.toInt.toNat, by omega⟩
    have y4 := pc_ex (t_house hfu (b := g 13) (n := n) (L0 := L) hI hn (by omega) (fun j hj => rfl)) _ _ _ e2
    have hl := ho_les (b := g 13) (n := n) 702 (0, 0, false, false) D0 (sk (g 13) n 0)
    clear e2
    revert y4 hl
    generalize hoS (g 13) n 702 (0, 0, false, false) (sk (g 13) n 0) = R
    generalize hoD (g 13) n 702 (0, 0, false, false) D0 (sk (g 13) n 0) = DD
    intro y4 hl
    cases R with
    | error p =>
      obtain ⟨-, y2, -⟩ := y4
      exact wi_fr h y2.fw (by decide)
    | ok t =>
      obtain ⟨-, y2, y3, -, -, y6, -, -, -, q1, -⟩ := y4
      have hl := hl t rfl (fun i hi => absurd hi (Nat.not_lt_zero _))
      refine ⟨fun i hi => ?_, ⟨fun i hi => ?_, fun k hk => ?_⟩, fun cc => absurd y2 cc⟩
      · obtain ⟨R, e⟩ := hl i (by omega)
        exact wf_les (q1 i (by omega)) e
      · obtain ⟨R, e⟩ := hl i (by omega)
        obtain ⟨-, -, -, -, m6, -⟩ := q1 i (by omega)
        replace m6 : (g2 12 (24 + i)).toInt = leV (g 13) n (DD.1 i) 7 := m6
        rw [m6]; exact leS_r e
      · rw [y6] at hk
        exact absurd hk (by show ¬ (k : Int) < 0; omega)
  · have c' : p1.toInt < 0 ∨ (g 0 18).toInt < p1.toInt := by omega
    rw [m_refused c'] at e2
    cases e2
    refine wi_00 h (fun k a _ => funext fun _ => by rw [upd2_nk a, upd2_nk a]) (fun j hj => by rw [upd2_nj hj, upd2_nj hj])
/-- class and reference, side by side: counts, data, and what holds of waiting and of rooms -/
def CR (g gm : gT) : Prop := CQ g gm ∧ WI gm
theorem dc_r {g d : gT} (h : CR g d) : ∃ cs, DC cs (d 0 1).toInt.toNat g d ∧ MD cs (d 0 1).toInt.toNat d := dc_of h.1.1 h.1.2 h.2.1 h.2.2.1.1
end
section
/-! ===== day and chain answer alike ===== -/
theorem late_x {cs : Nat → List Int} {n i fu : Nat} {p1 : Int32} {g d : gT} {L : lT} (h : DC cs n g d) (hi : p1.toInt = (i : Int)) (ni : i < n) : Pc (fX1_late_8 fu p1 g L) (fun x g1 _ => g1 = g ∧ x = g 44 i - d 2 i) := by
  have n12 := h.1.2
  have ei : p1.toNatClampNeg = i := by rw [nc, hi]; omega
  unfold fX1_late_8
  rw [ei, show i % 12 = i by omega]
  refine pc_ck (fun _ _ => pc_ck (fun _ _ => pc_ltn (fun q eq => pc_some ⟨rfl, ?_⟩)))
  rw [eq, (h.2.1 i ni).1.1.2.1]
theorem late_m {i fu : Nat} {p1 : Int32} {g d : gT} {L : lT} (e : Em d g) (hi : p1.toInt = (i : Int)) : Pc (fX12_late fu p1 g L) (fun x g1 _ => g1 = g ∧ x = g 32 i - d 2 i) := by
  have ei : p1.toNatClampNeg = i := by rw [nc, hi]; omega
  unfold fX12_late
  rw [ei]
  exact pc_ck (fun _ _ => pc_ck (fun _ _ => pc_some ⟨rfl, by rw [e 2 (by omega)]⟩))
/-- both days, run from where all began -/
theorem both {fu : Nat} {g gm ge g1 g2 : gT} {L Lm L1 L2 : lT} {x y : Unit} (h : CR g gm) (he : E0 gm ge) (e1 : fX1_runFrom_8 fu 0 g L = some (x, (g1, L1))) (e2 : fX12_works0 fu ge Lm = some (y, (g2, L2))) : ∃ cs, SD (gm 0 1).toInt.toNat g1 g2 ∧ DC cs (gm 0 1).toInt.toNat g1 ge ∧ MD cs (gm 0 1).toInt.toNat ge ∧ WR cs ge (gm 0 1).toInt.toNat g2 := by
  obtain ⟨cs, hX, hM⟩ := dc_r h
  have hX := hX.d he
  have hM := hM.d he
  exact ⟨cs, days hX hM e1 e2, hX.c (rf_x hX (f := 0) rfl (Nat.zero_le _) x g1 L1 e1).2.2, hM, wk_m hM y g2 L2 e2⟩
theorem works_0 {fu : Nat} {ge g2 : gT} {Lm L2 : lT} {y : Unit} (e2 : fX12_works0 fu ge Lm = some (y, (g2, L2))) : g2 0 0 = ge 0 0 := w_fX12_works0 ge fu ge Lm FW.refl y (g2, L2) e2 0 0 (by decide) (by decide)
theorem e0_u {gm : gT} {x : Int32} : E0 gm (upd2 gm 0 0 x) := fun k j hh => u00 hh
theorem cr_day {fu : Nat} {p1 p2 : Int32} {g gm g1 g2 : gT} {L Lm L1 L2 : lT} {rx : Except String Int32} {rm : Int32} (h : CR g gm) (e1 : fX11_day_0 fu p1 p2 g L = some (rx, (g1, L1))) (e2 : fX12_day fu p1 p2 gm Lm = some (rm, (g2, L2))) : (rx = .ok rm ∧ g2 0 0 = 0) ∨ (rx = .error NSE ∧ g2 0 0 = 1) := by
  have hp := h.1.1
  have hI := hp.2.1
  obtain ⟨k1, -⟩ := hp.2.2.2.2.2.2.1
  have r1 := hI 0 1 0 12 rfl
  have a0 : upd2 gm 0 0 0 0 0 = 0 := upd2_at
  have a1 : upd2 gm 0 0 0 0 1 = gm 0 1 := rfl
  unfold fX11_day_0 at e1
  unfold fX12_day fX12_day_p22 fX12_day_p88 at e2
  unfold sti at e2
  have e2 : cb (fX12_isLesson fu p1 (upd2 gm 0 0 0) Lm) _ = some (rm, (g2, L2)) := e2
  by_cases c1 : isL (gm 0 1) p1
  rotate_left
  · rw [xneed0 (by rw [k1]; exact c1)] at e1
    have e1 : some (.error NSE, (g, L)) = some (rx, (g1, L1)) := e1
    rw [lesson0 a0 (by rw [a1]; exact c1)] at e2
    have e2 : some ((0 : Int32), (upd2 (upd2 gm 0 0 0) 0 0 1, Lm)) = some (rm, (g2, L2)) := e2
    cases e1; cases e2
    exact Or.inr ⟨rfl, upd2_at⟩
  rw [xneed1 (by rw [k1]; exact c1), cbxs] at e1
  rw [lesson1 a0 (by rw [a1]; exact c1), cbs, if_neg (by decide)] at e2
  have i4 : (4 : Int32).toInt = 4 := rfl
  have i5 : (5 : Int32).toInt = 5 := rfl
  by_cases c2 : 0 ≤ p2.toInt ∧ p2.toInt ≤ (4 : Int32).toInt
  rotate_left
  · rw [xwhat0 (fun hh => c2 (by omega))] at e1
    have e1 : some (.error NSE, (g, L)) = some (rx, (g1, L1)) := e1
    rw [what0 a0 c2] at e2
    have e2 : some ((0 : Int32), (upd2 (upd2 gm 0 0 0) 0 0 1, Lm)) = some (rm, (g2, L2)) := e2
    cases e1; cases e2
    exact Or.inr ⟨rfl, upd2_at⟩
  rw [xwhat1 c2.1 (by omega), cbxs] at e1
  rw [what1 a0 c2.1 c2.2, cbs, if_neg (by decide)] at e2
  obtain ⟨xa, ga, La, ea, e1⟩ := cb_some e1
  obtain ⟨xb, gb, Lb, eb, e2⟩ := cb_some e2
  obtain ⟨cs, hS, hX, hM, hW⟩ := both h e0_u ea eb
  have z0 : gb 0 0 = 0 := by rw [works_0 eb]; exact a0
  have hl := l12 c1 (by omega)
  obtain ⟨i, hi⟩ : ∃ i : Nat, p1.toInt = (i : Int) := ⟨p1.toInt.toNat, by omega⟩
  have ni : i < (gm 0 1).toInt.toNat := by have := c1.2; omega
  have ei : p1.toNatClampNeg = i := by rw [nc, hi]; omega
  obtain ⟨s1, s2, s3, s4⟩ := hS i ni
  have ckx : ∀ {K : Option (Except String Int32 × zS)}, ck p1 12 K = K := ck_eq (by omega) (by omega)
  have ckm : ∀ {K : Option (Int32 × zS)}, ck p1 12 K = K := ck_eq (by omega) (by omega)
  have ne : ∀ {c : Int32} {m : Int}, c.toInt = m → p2.toInt ≠ m → ¬ p2 = c := fun a b e => b (by rw [e]; exact a)
  have done : ∀ {u v : Int32} {La' Lb' : lT}, some ((.ok u : Except String Int32), ((ga, La') : zS)) = some (rx, (g1, L1)) → some (v, ((gb, Lb') : zS)) = some (rm, (g2, L2)) → u = v → (rx = .ok rm ∧ g2 0 0 = 0) ∨ (rx = .error NSE ∧ g2 0 0 = 1) := by
    intro u v La' Lb' x y w
    cases x; cases y
    exact Or.inl ⟨by rw [w], z0⟩
  rcases (by omega : p2.toInt = 0 ∨ p2.toInt = 1 ∨ p2.toInt = 2 ∨ p2.toInt = 3 ∨ p2.toInt = 4) with q | q | q | q | q
  · rw [if_pos q, ckx, ei] at e1
    rw [if_pos (ic_eq.mpr q), ckm, ei] at e2
    exact done e1 e2 s1
  · rw [if_neg (by omega), if_pos q, ckx, ei] at e1
    rw [if_neg (ne (m := 0) rfl (by omega)), if_pos (ic_eq.mpr q), ckm, ei] at e2
    exact done e1 e2 s2
  · rw [if_neg (by omega), if_neg (by omega), if_pos q] at e1
    rw [if_neg (ne (m := 0) rfl (by omega)), if_neg (ne (m := 1) rfl (by omega)), if_pos (ic_eq.mpr q)] at e2
    obtain ⟨xc, gc, Lc, ec, e3⟩ := cb_some e1
    obtain ⟨xd, gd, Ld, ed, e4⟩ := cb_some e2
    obtain ⟨u0, u⟩ := late_x hX hi ni _ _ _ ec
    obtain ⟨v0, v⟩ := late_m hW.2 hi _ _ _ ed
    rw [u0] at e3
    rw [v0] at e4
    exact done e3 e4 (by rw [u, v, s2])
  · rw [if_neg (by omega), if_neg (by omega), if_neg (by omega), if_pos q, ckx, ei] at e1
    rw [if_neg (ne (m := 0) rfl (by omega)), if_neg (ne (m := 1) rfl (by omega)), if_neg (ne (m := 2) rfl (by omega)), if_pos (ic_eq.mpr q), ckm, ei] at e2
    exact done e1 e2 s3
  · rw [if_neg (by omega), if_neg (by omega), if_neg (by omega), if_neg (by omega), ckx, ei] at e1
    rw [if_neg (ne (m := 0) rfl (by omega)), if_neg (ne (m := 1) rfl (by omega)), if_neg (ne (m := 2) rfl (by omega)), if_neg (ne (m := 3) rfl (by omega)), ckm, ei] at e2
    exact done e1 e2 s4
/-- who began it: s steps back -/
def itS (B : Nat → Int32) (a : Int32) : Nat → Int32
  | 0 => a
  | s + 1 => if itS B a s = -1 then -1 else B (itS B a s).toInt.toNat
theorem it_s {B : Nat → Int32} {a : Int32} {s : Nat} (h : ¬ itS B a s = -1) : itS B a (s + 1) = B (itS B a s).toInt.toNat := if_neg h
theorem it_n {B : Nat → Int32} {a : Int32} {s : Nat} (h : itS B a s = -1) : ∀ t, s ≤ t → itS B a t = -1 := by
  intro t
  induction t with
  | zero => intro ht; rw [show s = 0 by omega] at h; exact h
  | succ t ih =>
    intro ht
    rcases (by omega : s ≤ t ∨ s = t + 1) with hh | hh
    · exact if_pos (ih hh)
    · rw [← hh]; exact h
/-- one goes back to lessons ahead -/
def BK (n : Nat) (B : Nat → Int32) : Prop := ∀ i, i < n → B i = -1 ∨ (0 ≤ (B i).toInt ∧ (B i).toInt < (i : Int))
theorem bk_of {cs : Nat → List Int} {d : gT} {n : Nat} {bg en ru by_ : Nat → Int32} (hW : WF n d) (h : DY cs d n bg en ru by_) : BK n by_ := by
  intro i hi
  rcases (h i hi).1 with ⟨-, -, y⟩ | ⟨-, v, -, ⟨-, -, y⟩ | ⟨-, -, -, y⟩ | ⟨-, -, -, k, k1, y, -⟩⟩
  · exact Or.inl y
  · exact Or.inl y
  · exact Or.inl y
  · rw [y]; exact Or.inr ((hW i hi).2.2 k (by omega))
theorem it_b {n : Nat} {B : Nat → Int32} {a : Int32} (hB : BK n B) (h0 : 0 ≤ a.toInt) (h1 : a.toInt < (n : Int)) : ∀ s : Nat, itS B a s = -1 ∨ (0 ≤ (itS B a s).toInt ∧ (itS B a s).toInt + (s : Int) < (n : Int)) := by
  intro s
  induction s with
  | zero => exact Or.inr ⟨h0, by show a.toInt + 0 < _; omega⟩
  | succ s ih =>
    by_cases c : itS B a s = -1
    · exact Or.inl (if_pos c)
    · rw [it_s c]
      rcases ih with e | ⟨e1, e2⟩
      · exact absurd e c
      · rcases hB (itS B a s).toInt.toNat (by omega) with e | ⟨e3, e4⟩
        · exact Or.inl e
        · exact Or.inr ⟨e3, by omega⟩
theorem it_c {n : Nat} {B B' : Nat → Int32} {a : Int32} (hB : BK n B) (e : ∀ i, i < n → B i = B' i) (h0 : 0 ≤ a.toInt) (h1 : a.toInt < (n : Int)) : ∀ s : Nat, itS B a s = itS B' a s := by
  intro s
  induction s with
  | zero => rfl
  | succ s ih =>
    by_cases c : itS B a s = -1
    · rw [it_n c (s + 1) (by omega), it_n (ih.symm.trans c) (s + 1) (by omega)]
    · rw [it_s c, it_s (fun e' => c (ih.trans e')), ← ih]
      rcases it_b hB h0 h1 s with e' | ⟨e1, e2⟩
      · exact absurd e' c
      · exact e _ (by omega)
theorem ch_x {n I fu : Nat} {p1 p2 : Int32} {g : gT} {L : lT} (hB : BK n (g 46)) (n12 : n ≤ 12) (h0 : 0 ≤ p1.toInt) (h1 : p1.toInt < (n : Int)) (hI : p2.toInt = (I : Int)) : Pc (fX11_chain_0_l30 fu p2 p1 0 g L) (fun x _ _ => x = .ok (itS (g 46) p1 I)) := by
  unfold fX11_chain_0_l30
  refine pc_loop (fun v => ∃ s : Nat, v.2.1.toInt = (s : Int) ∧ s ≤ I ∧ s ≤ 12 ∧ v.1 = itS (g 46) p1 s ∧ v.2.2.1 = g) (fun k hk v hv => ?_) ⟨0, rfl, by omega, by omega, rfl, rfl⟩
  obtain ⟨v3, v4, g', L'⟩ := v
  obtain ⟨s, hs, sI, s12, e3, eg⟩ := hv
  replace hs : v4.toInt = (s : Int) := hs
  replace e3 : v3 = itS (g 46) p1 s := e3
  replace eg : g' = g := eg
  subst eg
  show Pc (fX11_chain_0_s30 fu p2 k v3 v4 g' L') _
  unfold fX11_chain_0_s30 fX11_chain_0_p64
  refine pc_ite (fun c => pc_some ?_) (fun c => pc_ite (fun c1 => pc_some ?_) (fun c1 => pc_ite (fun c2 => pc_some ?_) (fun c2 => pc_ck (fun _ _ => pc_lti (fun x e => hk _ ⟨s + 1, ?_, ?_, ?_, ?_, rfl⟩)))))
  · have c := icc_le hI hs c
    rw [e3, show s = I by omega]
  · rw [e3] at c1
    rw [e3, c1, it_n c1 I sI]
  · have c2 := icc_le (m := 12) rfl hs c2
    exfalso
    rcases it_b hB h0 h1 s with e | e
    · exact c1 (by rw [e3]; exact e)
    · omega
  · show (v4 + 1).toInt = _
    rw [ic_addc hs (n := 1) rfl (by omega) (by omega)]; omega
  · have c := icc_nle hI hs c
    omega
  · have c2 := icc_nle (m := 12) rfl hs c2
    omega
  · show x = _
    rw [it_s (by rw [← e3]; exact c1), ← e3, e, nc]
theorem ch_m {n I fu : Nat} {p1 p2 : Int32} {g : gT} {L : lT} (hI : p2.toInt = (I : Int)) : Pc (fX12_chain_l41 fu p2 p1 0 g L) (fun x g1 _ => g1 = g ∧ x = itS (g 34) p1 I) := by
  unfold fX12_chain_l41
  have rg := ic_rg p2
  refine pc_loop (fun v => ∃ s : Nat, v.2.1.toInt = (s : Int) ∧ s ≤ I ∧ v.1 = itS (g 34) p1 s ∧ v.2.2.1 = g) (fun k hk v hv => ?_) ⟨0, rfl, by omega, rfl, rfl⟩
  obtain ⟨v3, v4, g', L'⟩ := v
  obtain ⟨s, hs, sI, e3, eg⟩ := hv
  replace hs : v4.toInt = (s : Int) := hs
  replace e3 : v3 = itS (g 34) p1 s := e3
  replace eg : g' = g := eg
  subst eg
  show Pc (fX12_chain_s41 fu p2 k v3 v4 g' L') _
  unfold fX12_chain_s41 fX12_chain_p65
  refine pc_ite (fun c => pc_some ⟨rfl, ?_⟩) (fun c => pc_ite (fun c1 => pc_some ⟨rfl, ?_⟩) (fun c1 => pc_ck (fun _ _ => pc_lti (fun x e => hk _ ⟨s + 1, ?_, ?_, ?_, rfl⟩))))
  · have c := icc_le hI hs c
    rw [e3, show s = I by omega]
  · rw [e3] at c1
    rw [e3, c1, it_n c1 I sI]
  · have c := icc_nle hI hs c
    show (v4 + 1).toInt = _
    rw [ic_addc hs (n := 1) rfl (by omega) (by omega)]; omega
  · have c := icc_nle hI hs c
    omega
  · show x = _
    rw [it_s (by rw [← e3]; exact c1), ← e3, e, nc]
theorem cr_chain {fu : Nat} {p1 p2 : Int32} {g gm g1 g2 : gT} {L Lm L1 L2 : lT} {rx : Except String Int32} {rm : Int32} (h : CR g gm) (e1 : fX11_chain_0 fu p1 p2 g L = some (rx, (g1, L1))) (e2 : fX12_chain fu p1 p2 gm Lm = some (rm, (g2, L2))) : (rx = .ok rm ∧ g2 0 0 = 0) ∨ (rx = .error NSE ∧ g2 0 0 = 1) := by
  have hp := h.1.1
  have hI := hp.2.1
  obtain ⟨k1, -⟩ := hp.2.2.2.2.2.2.1
  have r1 := hI 0 1 0 12 rfl
  have a0 : upd2 gm 0 0 0 0 0 = 0 := upd2_at
  have a1 : upd2 gm 0 0 0 0 1 = gm 0 1 := rfl
  unfold fX11_chain_0 at e1
  unfold fX12_chain fX12_chain_p30 fX12_chain_p23 fX12_chain_p30 at e2
  unfold sti at e2
  have e2 : cb (fX12_isLesson fu p1 (upd2 gm 0 0 0) Lm) _ = some (rm, (g2, L2)) := e2
  by_cases c1 : isL (gm 0 1) p1
  rotate_left
  · rw [xneed0 (by rw [k1]; exact c1)] at e1
    have e1 : some (.error NSE, (g, L)) = some (rx, (g1, L1)) := e1
    rw [lesson0 a0 (by rw [a1]; exact c1)] at e2
    have e2 : some ((0 : Int32), (upd2 (upd2 gm 0 0 0) 0 0 1, Lm)) = some (rm, (g2, L2)) := e2
    cases e1; cases e2
    exact Or.inr ⟨rfl, upd2_at⟩
  rw [xneed1 (by rw [k1]; exact c1), cbxs] at e1
  rw [lesson1 a0 (by rw [a1]; exact c1), cbs, if_neg (by decide)] at e2
  by_cases c2 : p2 < 0
  · have c2' := icc_lt (m := p2.toInt) (n := 0) rfl rfl c2
    rw [if_neg (fun e => by have := icc_le (m := 0) (n := p2.toInt) rfl rfl e; omega)] at e1
    rw [if_pos c2, right0 a0 (by decide), cbs, if_pos rfl] at e2
    cases e1; cases e2
    exact Or.inr ⟨rfl, upd2_at⟩
  have c2' := icc_nlt (m := p2.toInt) (n := 0) rfl rfl c2
  rw [if_pos (ic_le.mpr (by show (0 : Int) ≤ _; omega))] at e1
  rw [if_neg c2, right1 a0, cbs, if_neg (by decide)] at e2
  obtain ⟨xa, ga, La, ea, e1⟩ := cb_some e1
  obtain ⟨xb, gb, Lb, eb, e2⟩ := cb_some e2
  obtain ⟨cs, hS, hX, hM, hW⟩ := both h e0_u ea eb
  have z0 : gb 0 0 = 0 := by rw [works_0 eb]; exact a0
  have hl := l12 c1 (by omega)
  obtain ⟨I, hI'⟩ : ∃ I : Nat, p2.toInt = (I : Int) := ⟨p2.toInt.toNat, by omega⟩
  have bk : BK (gm 0 1).toInt.toNat (gb 34) := bk_of hM.2.1 hW.1
  have bx : BK (gm 0 1).toInt.toNat (ga 46) := fun i hi => by rw [(hS i hi).2.2.2]; exact bk i hi
  have pn : p1.toInt < (((gm 0 1).toInt.toNat : Nat) : Int) := by have := c1.2; omega
  have u := ch_x bx hX.1.2 c1.1 pn hI' _ _ _ e1
  obtain ⟨v0, v⟩ := ch_m (n := 12) hI' _ _ _ e2
  refine Or.inl ⟨?_, by rw [v0]; exact z0⟩
  rw [u, v, it_c bx (fun i hi => (hS i hi).2.2.2) c1.1 pn I]
end
section
/-! ===== count answers alike ===== -/
def fo (f : Nat → Int32 → Int32) : Nat → Int32
  | 0 => 0
  | m + 1 => f m (fo f m)
theorem fo_c {f f' : Nat → Int32 → Int32} : ∀ {n : Nat}, (∀ i, i < n → ∀ a, f i a = f' i a) → fo f n = fo f' n := by
  intro n
  induction n with
  | zero => intro _; rfl
  | succ n ih =>
    intro h
    show f n (fo f n) = f' n (fo f' n)
    rw [ih (fun i hi => h i (by omega)), h n (by omega)]
def fLost (d : gT) (en : Nat → Int32) (i : Nat) (a : Int32) : Int32 := a + d 4 i * (en i - d 2 i)
def fOnes (d : gT) (en : Nat → Int32) (i : Nat) (a : Int32) : Int32 := a + (if en i - d 2 i ≤ 0 then 0 else 1)
def fMost (d : gT) (en : Nat → Int32) (i : Nat) (a : Int32) : Int32 := if a < en i - d 2 i then en i - d 2 i else a
def fBeg (d : gT) (bg : Nat → Int32) (i : Nat) (a : Int32) : Int32 := a + (if bg i ≤ d 1 i then 0 else 1)
section X
variable {cs : Nat → List Int} {n fu : Nat} {g d : gT} {L : lT}
theorem lost_x (h : DC cs n g d) : Pc (fX1_lost_8 fu g L) (fun x g1 _ => g1 = g ∧ x = fo (fLost d (g 44)) n) := by
  have hn := h.1
  unfold fX1_lost_8 fX1_lost_8_l4
  refine pc_loop (fun v => ∃ m : Nat, v.2.1.toInt = (m : Int) ∧ m ≤ n ∧ v.1 = fo (fLost d (g 44)) m ∧ v.2.2.1 = g) (fun k hk v hv => ?_) ⟨0, rfl, by omega, rfl, rfl⟩
  obtain ⟨v1, v2, g', L'⟩ := v
  obtain ⟨m, hm, mn, e1, eg⟩ := hv
  replace hm : v2.toInt = (m : Int) := hm
  replace e1 : v1 = fo (fLost d (g 44)) m := e1
  replace eg : g' = g := eg
  subst eg
  show Pc (fX1_lost_8_s4 fu k v1 v2 g' L') _
  unfold fX1_lost_8_s4
  have ei : v2.toNatClampNeg = m := by rw [nc, hm]; omega
  refine pc_ite (fun c => pc_some ⟨rfl, ?_⟩) (fun c => ?_)
  · have c := icc_le hn.1 hm c
    rw [e1, show m = n by omega]
  have c := icc_nle hn.1 hm c
  rw [ei, show m % 12 = m by omega]
  refine pc_ck (fun _ _ => pc_ltn (fun q eq => pc_cb (late_x h hm (by omega)) (fun x3 g4 L5 e3 => pc_lti (fun x7 e7 => hk _ ⟨m + 1, ?_, by omega, ?_, e3.1⟩))))
  · show (v2 + 1).toInt = _
    rw [ic_addc hm (n := 1) rfl (by omega) (by omega)]; omega
  · show x7 = fLost d (g' 44) m (fo (fLost d (g' 44)) m)
    rw [e7, eq, (h.2.1 m (by omega)).1.1.2.2.2, e3.2, e1]; rfl
theorem ones_x (h : DC cs n g d) : Pc (fX1_lateOnes_8 fu g L) (fun x g1 _ => g1 = g ∧ x = fo (fOnes d (g 44)) n) := by
  have hn := h.1
  unfold fX1_lateOnes_8 fX1_lateOnes_8_l4
  refine pc_loop (fun v => ∃ m : Nat, v.2.1.toInt = (m : Int) ∧ m ≤ n ∧ v.1 = fo (fOnes d (g 44)) m ∧ v.2.2.1 = g) (fun k hk v hv => ?_) ⟨0, rfl, by omega, rfl, rfl⟩
  obtain ⟨v1, v2, g', L'⟩ := v
  obtain ⟨m, hm, mn, e1, eg⟩ := hv
  replace hm : v2.toInt = (m : Int) := hm
  replace e1 : v1 = fo (fOnes d (g 44)) m := e1
  replace eg : g' = g := eg
  subst eg
  show Pc (fX1_lateOnes_8_s4 fu k v1 v2 g' L') _
  unfold fX1_lateOnes_8_s4 fX1_lateOnes_8_p29
  refine pc_ite (fun c => pc_some ⟨rfl, ?_⟩) (fun c => ?_)
  · have c := icc_le hn.1 hm c
    rw [e1, show m = n by omega]
  have c := icc_nle hn.1 hm c
  have ew : (v2 + 1).toInt = ((m + 1 : Nat) : Int) := by rw [ic_addc hm (n := 1) rfl (by omega) (by omega)]; omega
  refine pc_cb (late_x h hm (by omega)) (fun x2 g3 L4 e2 => pc_ite (fun c1 => pc_lti (fun x6 e6 => hk _ ⟨m + 1, ew, by omega, ?_, e2.1⟩)) (fun c1 => pc_lti (fun x6 e6 => hk _ ⟨m + 1, ew, by omega, ?_, e2.1⟩)))
  · show x6 = fOnes d (g' 44) m (fo (fOnes d (g' 44)) m)
    rw [e2.2] at c1
    unfold fOnes; rw [if_pos c1, e6, e1]; rfl
  · show x6 = fOnes d (g' 44) m (fo (fOnes d (g' 44)) m)
    rw [e2.2] at c1
    unfold fOnes; rw [if_neg c1, e6, e1]; rfl
theorem most_x (h : DC cs n g d) : Pc (fX1_latest_8 fu g L) (fun x g1 _ => g1 = g ∧ x = fo (fMost d (g 44)) n) := by
  have hn := h.1
  unfold fX1_latest_8 fX1_latest_8_l4
  refine pc_loop (fun v => ∃ m : Nat, v.2.1.toInt = (m : Int) ∧ m ≤ n ∧ v.1 = fo (fMost d (g 44)) m ∧ v.2.2.1 = g) (fun k hk v hv => ?_) ⟨0, rfl, by omega, rfl, rfl⟩
  obtain ⟨v1, v2, g', L'⟩ := v
  obtain ⟨m, hm, mn, e1, eg⟩ := hv
  replace hm : v2.toInt = (m : Int) := hm
  replace e1 : v1 = fo (fMost d (g 44)) m := e1
  replace eg : g' = g := eg
  subst eg
  show Pc (fX1_latest_8_s4 fu k v1 v2 g' L') _
  unfold fX1_latest_8_s4
  refine pc_ite (fun c => pc_some ⟨rfl, ?_⟩) (fun c => ?_)
  · have c := icc_le hn.1 hm c
    rw [e1, show m = n by omega]
  have c := icc_nle hn.1 hm c
  have ew : (v2 + 1).toInt = ((m + 1 : Nat) : Int) := by rw [ic_addc hm (n := 1) rfl (by omega) (by omega)]; omega
  refine pc_cb (late_x h hm (by omega)) (fun x2 g3 L4 e2 => pc_lti (fun x6 e6 => hk _ ⟨m + 1, ew, by omega, ?_, e2.1⟩))
  show x6 = fMost d (g' 44) m (fo (fMost d (g' 44)) m)
  rw [e6, e2.2, e1]; rfl
theorem beg_x (h : DC cs n g d) : Pc (fX1_begunLater_8 fu g L) (fun x g1 _ => g1 = g ∧ x = fo (fBeg d (g 43)) n) := by
  have hn := h.1
  unfold fX1_begunLater_8 fX1_begunLater_8_l4
  refine pc_loop (fun v => ∃ m : Nat, v.2.1.toInt = (m : Int) ∧ m ≤ n ∧ v.1 = fo (fBeg d (g 43)) m ∧ v.2.2.1 = g) (fun k hk v hv => ?_) ⟨0, rfl, by omega, rfl, rfl⟩
  obtain ⟨v1, v2, g', L'⟩ := v
  obtain ⟨m, hm, mn, e1, eg⟩ := hv
  replace hm : v2.toInt = (m : Int) := hm
  replace e1 : v1 = fo (fBeg d (g 43)) m := e1
  replace eg : g' = g := eg
  subst eg
  show Pc (fX1_begunLater_8_s4 fu k v1 v2 g' L') _
  unfold fX1_begunLater_8_s4 fX1_begunLater_8_p42
  have ei : v2.toNatClampNeg = m := by rw [nc, hm]; omega
  refine pc_ite (fun c => pc_some ⟨rfl, ?_⟩) (fun c => ?_)
  · have c := icc_le hn.1 hm c
    rw [e1, show m = n by omega]
  have c := icc_nle hn.1 hm c
  have ew : (v2 + 1).toInt = ((m + 1 : Nat) : Int) := by rw [ic_addc hm (n := 1) rfl (by omega) (by omega)]; omega
  rw [ei, show m % 12 = m by omega]
  refine pc_ck (fun _ _ => pc_ck (fun _ _ => pc_ltn (fun q eq => ?_)))
  rw [eq, (h.2.1 m (by omega)).1.1.1]
  refine pc_ite (fun c1 => pc_lti (fun x6 e6 => hk _ ⟨m + 1, ew, by omega, ?_, rfl⟩)) (fun c1 => pc_lti (fun x6 e6 => hk _ ⟨m + 1, ew, by omega, ?_, rfl⟩))
  · show x6 = fBeg d (g' 43) m (fo (fBeg d (g' 43)) m)
    unfold fBeg; rw [if_pos c1, e6, e1]; rfl
  · show x6 = fBeg d (g' 43) m (fo (fBeg d (g' 43)) m)
    unfold fBeg; rw [if_neg c1, e6, e1]; rfl
theorem lost_m (e : Em d g) (hn : (d 0 1).toInt = (n : Int)) (n12 : n ≤ 12) : Pc (fX12_lost_l8 fu 0 0 g L) (fun x g1 _ => g1 = g ∧ x = fo (fLost d (g 32)) n) := by
  unfold fX12_lost_l8
  have e01 : (g 0 1).toInt = (n : Int) := by rw [e 0 (by omega)]; exact hn
  refine pc_loop (fun v => ∃ m : Nat, v.2.1.toInt = (m : Int) ∧ m ≤ n ∧ v.1 = fo (fLost d (g 32)) m ∧ v.2.2.1 = g) (fun k hk v hv => ?_) ⟨0, rfl, by omega, rfl, rfl⟩
  obtain ⟨v1, v2, g', L'⟩ := v
  obtain ⟨m, hm, mn, e1, eg⟩ := hv
  replace hm : v2.toInt = (m : Int) := hm
  replace e1 : v1 = fo (fLost d (g 32)) m := e1
  replace eg : g' = g := eg
  subst eg
  show Pc (fX12_lost_s8 fu k v1 v2 g' L') _
  unfold fX12_lost_s8
  have ei : v2.toNatClampNeg = m := by rw [nc, hm]; omega
  refine pc_ite (fun c => pc_some ⟨rfl, ?_⟩) (fun c => ?_)
  · have c := icc_le e01 hm c
    rw [e1, show m = n by omega]
  have c := icc_nle e01 hm c
  rw [ei, e 4 (by omega)]
  refine pc_ck (fun _ _ => pc_cb (late_m e hm) (fun x3 g4 L5 e3 => pc_lti (fun x7 e7 => hk _ ⟨m + 1, ?_, by omega, ?_, e3.1⟩)))
  · show (v2 + 1).toInt = _
    rw [ic_addc hm (n := 1) rfl (by omega) (by omega)]; omega
  · show x7 = fLost d (g' 32) m (fo (fLost d (g' 32)) m)
    rw [e7, e3.2, e1]; rfl
/-- lateness: how many late, how late at most, how many begun later -/
def fLn (w : Int) (d : gT) (bg en : Nat → Int32) (i : Nat) (a : Int32) : Int32 := if w = 13 then fMost d en i a else if w = 12 then fOnes d en i a else fBeg d bg i a
theorem ln_m {p1 : Int32} (e : Em d g) (hn : (d 0 1).toInt = (n : Int)) (n12 : n ≤ 12) : Pc (fX12_lateness_l8 fu p1 0 0 g L) (fun x g1 _ => g1 = g ∧ x = fo (fLn p1.toInt d (g 31) (g 32)) n) := by
  unfold fX12_lateness_l8
  have e01 : (g 0 1).toInt = (n : Int) := by rw [e 0 (by omega)]; exact hn
  refine pc_loop (fun v => ∃ m : Nat, v.2.1.toInt = (m : Int) ∧ m ≤ n ∧ v.1 = fo (fLn p1.toInt d (g 31) (g 32)) m ∧ v.2.2.1 = g) (fun k hk v hv => ?_) ⟨0, rfl, by omega, rfl, rfl⟩
  obtain ⟨v2, v3, g', L'⟩ := v
  obtain ⟨m, hm, mn, e1, eg⟩ := hv
  replace hm : v3.toInt = (m : Int) := hm
  replace e1 : v2 = fo (fLn p1.toInt d (g 31) (g 32)) m := e1
  replace eg : g' = g := eg
  subst eg
  show Pc (fX12_lateness_s8 fu p1 k v2 v3 g' L') _
  unfold fX12_lateness_s8 fX12_lateness_p40 fX12_lateness_p77 fX12_lateness_p81 fX12_lateness_p82 fX12_lateness_p84
  have ei : v3.toNatClampNeg = m := by rw [nc, hm]; omega
  refine pc_ite (fun c => pc_some ⟨rfl, ?_⟩) (fun c => ?_)
  · have c := icc_le e01 hm c
    rw [e1, show m = n by omega]
  have c := icc_nle e01 hm c
  have ew : (v3 + 1).toInt = ((m + 1 : Nat) : Int) := by rw [ic_addc hm (n := 1) rfl (by omega) (by omega)]; omega
  have nx : ∀ (x : Int32) (ga : gT) (La : lT), ga = g' → x = fLn p1.toInt d (g' 31) (g' 32) m v2 → Pc (k (x, (v3 + 1), ga, La)) (fun x g1 _ => g1 = g' ∧ x = fo (fLn p1.toInt d (g' 31) (g' 32)) n) := fun x ga La h1 h2 => hk _ ⟨m + 1, ew, by omega, by rw [e1] at h2; exact h2, h1⟩
  refine pc_ite (fun c1 => ?_) (fun c1 => pc_ite (fun c2 => ?_) (fun c2 => ?_))
  · have c1 : p1.toInt = 13 := icc_eq (n := 13) rfl rfl c1
    have ef : fLn p1.toInt d (g' 31) (g' 32) m v2 = fMost d (g' 32) m v2 := by unfold fLn; rw [if_pos c1]
    refine pc_cb (late_m e hm) (fun x15 g16 L17 e15 => pc_ite (fun c3 => nx _ _ _ e15.1 ?_) (fun c3 => pc_cb (late_m (d := d) (by rw [e15.1]; exact e) hm) (fun x20 g21 L22 e20 => nx _ _ _ (e20.1.trans e15.1) ?_)))
    · rw [ef]; unfold fMost
      rw [e15.2] at c3
      have c3 := ic_le.mp c3
      rw [if_neg (fun h => by have := ic_lt.mp h; omega)]
    · rw [ef]; unfold fMost
      rw [e15.2] at c3
      have c3 := icc_nle (m := (g' 32 m - d 2 m).toInt) (n := v2.toInt) rfl rfl c3
      rw [if_pos (ic_lt.mpr c3), e20.2, e15.1]
  · have c1 : ¬ p1.toInt = 13 := icc_neq (n := 13) rfl rfl c1
    have c2 : p1.toInt = 12 := icc_eq (n := 12) rfl rfl c2
    have ef : fLn p1.toInt d (g' 31) (g' 32) m v2 = fOnes d (g' 32) m v2 := by unfold fLn; rw [if_neg c1, if_pos c2]
    refine pc_cb (late_m e hm) (fun x10 g11 L12 e10 => pc_ite (fun c3 => pc_lti (fun x7 e7 => nx _ _ _ e10.1 ?_)) (fun c3 => pc_lti (fun x7 e7 => nx _ _ _ e10.1 ?_)))
    · rw [e10.2] at c3
      rw [ef, e7]; unfold fOnes; rw [if_pos c3]
    · rw [e10.2] at c3
      rw [ef, e7]; unfold fOnes; rw [if_neg c3]
  · have c1 : ¬ p1.toInt = 13 := icc_neq (n := 13) rfl rfl c1
    have c2 : ¬ p1.toInt = 12 := icc_neq (n := 12) rfl rfl c2
    have ef : fLn p1.toInt d (g' 31) (g' 32) m v2 = fBeg d (g' 31) m v2 := by unfold fLn; rw [if_neg c1, if_neg c2]
    rw [ei, e 1 (by omega)]
    refine pc_ck (fun _ _ => pc_ck (fun _ _ => pc_ite (fun c3 => pc_lti (fun x7 e7 => nx _ _ _ rfl ?_)) (fun c3 => pc_lti (fun x7 e7 => nx _ _ _ rfl ?_))))
    · rw [ef, e7]; unfold fBeg; rw [if_pos c3]
    · rw [ef, e7]; unfold fBeg; rw [if_neg c3]
end X
theorem cr_count {fu : Nat} {p1 : Int32} {g gm g1 g2 : gT} {L Lm L1 L2 : lT} {rx : Except String Int32} {rm : Int32} (h : CR g gm) (e1 : fX11_count_0 fu p1 g L = some (rx, (g1, L1))) (e2 : fX12_count fu p1 gm Lm = some (rm, (g2, L2))) : (rx = .ok rm ∧ g2 0 0 = 0) ∨ (rx = .error NSE ∧ g2 0 0 = 1) := by
  have hp := h.1.1
  have hI := hp.2.1
  obtain ⟨k1, k2, k3, k4, -⟩ := hp.2.2.2.2.2.2.1
  have t1 : g 0 13 = gm 0 18 := hp.2.2.2.1.1
  obtain ⟨⟨-, d3, d4, -⟩, ⟨-, d11, -⟩, -, d15, -⟩ := h.1.2
  have r1 := hI 0 1 0 12 rfl
  have a0 : upd2 gm 0 0 0 0 0 = 0 := upd2_at
  have nk : ∀ j, j ≠ 0 → upd2 gm 0 0 0 0 j = gm 0 j := fun j hj => upd2_nj hj
  unfold fX11_count_0 at e1
  unfold fX12_count at e2
  unfold sti at e2
  have e2 : cb (fX12_within fu p1 0 14 (upd2 gm 0 0 0) Lm) _ = some (rm, (g2, L2)) := e2
  have i14 : (14 : Int32).toInt = 14 := rfl
  have i15 : (15 : Int32).toInt = 15 := rfl
  have i0 : (0 : Int32).toInt = 0 := rfl
  by_cases c : 0 ≤ p1.toInt ∧ p1.toInt ≤ 14
  rotate_left
  · rw [xwhat0 (fun hh => c (by omega))] at e1
    have e1 : some (.error NSE, (g, L)) = some (rx, (g1, L1)) := e1
    rw [within0 (fun hh => c (by omega)), cbs, right0 a0 (by decide), cbs, if_pos rfl] at e2
    cases e1; cases e2
    exact Or.inr ⟨rfl, upd2_at⟩
  rw [xwhat1 c.1 (by omega), cbxs] at e1
  rw [within1 (by omega) (by omega), cbs, right1 a0, cbs, if_neg (by decide)] at e2
  have done : ∀ {u v : Int32} {La' Lb' : lT}, some ((.ok u : Except String Int32), ((g, La') : zS)) = some (rx, (g1, L1)) → some (v, ((upd2 gm 0 0 0, Lb') : zS)) = some (rm, (g2, L2)) → u = v → (rx = .ok rm ∧ g2 0 0 = 0) ∨ (rx = .error NSE ∧ g2 0 0 = 1) := by
    intro u v La' Lb' x y w
    cases x; cases y
    exact Or.inl ⟨by rw [w], a0⟩
  by_cases c11 : p1.toInt ≤ 11
  · rw [if_pos (ic_le.mpr c11)] at e2
    by_cases c7 : p1.toInt = 7
    · simp only [c7] at e1 e2
      have e1 : cb (fX11_countOfDay_0 fu p1 g L) (fun x13 g14 L15 => some ((.ok x13 : Except String Int32), (g14, L15))) = some (rx, (g1, L1)) := e1
      have e2 : cb (fX12_lost fu (upd2 gm 0 0 0) Lm) (fun x20 g21 L22 => some (x20, (g21, L22))) = some (rm, (g2, L2)) := e2
      obtain ⟨xa, ga, La, ea, e1⟩ := cb_some e1
      obtain ⟨xb, gb, Lb, eb, e2⟩ := cb_some e2
      cases e1; cases e2
      unfold fX11_countOfDay_0 at ea
      unfold fX12_lost at eb
      obtain ⟨y1, gc, Lc, ec, ea⟩ := cb_some ea
      obtain ⟨y2, gd, Ld, ed, eb⟩ := cb_some eb
      rw [if_pos c7] at ea
      obtain ⟨y3, ge, Le, ee, ea⟩ := cb_some ea
      cases ea
      obtain ⟨cs, hS, hX, hM, hW⟩ := both h e0_u ec ed
      obtain ⟨-, u⟩ := lost_x hX _ _ _ ee
      obtain ⟨v0, v⟩ := lost_m hW.2 hM.1.1 hM.1.2 _ _ _ eb
      refine Or.inl ⟨?_, by rw [v0, works_0 ed]; exact a0⟩
      have w : fo (fLost (upd2 gm 0 0 0) (gc 44)) (gm 0 1).toInt.toNat = fo (fLost (upd2 gm 0 0 0) (gd 32)) (gm 0 1).toInt.toNat := fo_c (fun i hi a => by unfold fLost; rw [(hS i hi).2.1])
      rw [u, v, w]
    · have ckm : ∀ {K : Option (Int32 × zS)}, 9 ≤ p1.toInt → ck (p1 - 9) 3 K = K := fun h9 => by
        have e := ic_subc (x := p1) (y := 9) rfl (n := 9) rfl (by omega) (by omega)
        exact ck_eq (by omega) (by omega)
      have n9 : 9 ≤ p1.toInt → (p1 - 9).toNatClampNeg = p1.toInt.toNat - 9 := fun h9 => by
        rw [nc, ic_subc (n := 9) rfl rfl (by omega) (by omega)]; omega
      rcases (by omega : p1.toInt = 0 ∨ p1.toInt = 1 ∨ p1.toInt = 2 ∨ p1.toInt = 3 ∨ p1.toInt = 4 ∨ p1.toInt = 5 ∨ p1.toInt = 6 ∨ p1.toInt = 8 ∨ p1.toInt = 9 ∨ p1.toInt = 10 ∨ p1.toInt = 11) with q | q | q | q | q | q | q | q | q | q | q
      · simp only [q] at e1 e2
        exact done e1 e2 (by rw [nk 1 (by decide)]; exact k1)
      · simp only [q] at e1 e2
        exact done e1 e2 (by rw [nk 2 (by decide)]; exact k2)
      · simp only [q] at e1 e2
        exact done e1 e2 (by rw [nk 52 (by decide)]; exact d11)
      · simp only [q] at e1 e2
        exact done e1 e2 (by rw [nk 3 (by decide)]; exact d3)
      · simp only [q] at e1 e2
        exact done e1 e2 (by rw [nk 4 (by decide)]; exact d4)
      · simp only [q] at e1 e2
        exact done e1 e2 (by rw [nk 62 (by decide)]; exact k3)
      · simp only [q] at e1 e2
        exact done e1 e2 (by rw [nk 73 (by decide)]; exact k4)
      · simp only [q] at e1 e2
        exact done e1 e2 (by rw [nk 18 (by decide)]; exact t1)
      · rw [ckm (by omega), n9 (by omega)] at e2
        simp only [q] at e1 e2
        exact done e1 e2 (by rw [upd2_nk (by decide)]; exact d15 0 (by decide))
      · rw [ckm (by omega), n9 (by omega)] at e2
        simp only [q] at e1 e2
        exact done e1 e2 (by rw [upd2_nk (by decide)]; exact d15 1 (by decide))
      · rw [ckm (by omega), n9 (by omega)] at e2
        simp only [q] at e1 e2
        exact done e1 e2 (by rw [upd2_nk (by decide)]; exact d15 2 (by decide))
  · rw [if_neg (fun e => c11 (ic_le.mp e))] at e2
    have e1 : cb (fX11_countOfDay_0 fu p1 g L) (fun x13 g14 L15 => some ((.ok x13 : Except String Int32), (g14, L15))) = some (rx, (g1, L1)) := by
      rw [if_neg (by omega), if_neg (by omega), if_neg (by omega), if_neg (by omega), if_neg (by omega), if_neg (by omega), if_neg (by omega), if_neg (by omega), if_neg (by omega), if_neg (by omega), if_neg (by omega), if_neg (by omega)] at e1
      exact e1
    obtain ⟨xa, ga, La, ea, e1⟩ := cb_some e1
    obtain ⟨xb, gb, Lb, eb, e2⟩ := cb_some e2
    cases e1; cases e2
    unfold fX11_countOfDay_0 at ea
    unfold fX12_lateness at eb
    obtain ⟨y1, gc, Lc, ec, ea⟩ := cb_some ea
    obtain ⟨y2, gd, Ld, ed, eb⟩ := cb_some eb
    obtain ⟨cs, hS, hX, hM, hW⟩ := both h e0_u ec ed
    obtain ⟨v0, v⟩ := ln_m hW.2 hM.1.1 hM.1.2 _ _ _ eb
    refine Or.inl ⟨?_, by rw [v0, works_0 ed]; exact a0⟩
    rw [if_neg (by omega)] at ea
    rcases (by omega : p1.toInt = 12 ∨ p1.toInt = 13 ∨ p1.toInt = 14) with q | q | q
    · rw [if_pos q] at ea
      obtain ⟨y3, ge, Le, ee, ea⟩ := cb_some ea
      cases ea
      obtain ⟨-, u⟩ := ones_x hX _ _ _ ee
      have w : fo (fOnes (upd2 gm 0 0 0) (gc 44)) (gm 0 1).toInt.toNat = fo (fLn p1.toInt (upd2 gm 0 0 0) (gd 31) (gd 32)) (gm 0 1).toInt.toNat := fo_c (fun i hi a => by unfold fLn; rw [if_neg (by omega), if_pos q]; unfold fOnes; rw [(hS i hi).2.1])
      rw [u, v, w]
    · rw [if_neg (by omega), if_pos q] at ea
      obtain ⟨y3, ge, Le, ee, ea⟩ := cb_some ea
      cases ea
      obtain ⟨-, u⟩ := most_x hX _ _ _ ee
      have w : fo (fMost (upd2 gm 0 0 0) (gc 44)) (gm 0 1).toInt.toNat = fo (fLn p1.toInt (upd2 gm 0 0 0) (gd 31) (gd 32)) (gm 0 1).toInt.toNat := fo_c (fun i hi a => by unfold fLn; rw [if_pos q]; unfold fMost; rw [(hS i hi).2.1])
      rw [u, v, w]
    · rw [if_neg (by omega), if_neg (by omega)] at ea
      obtain ⟨y3, ge, Le, ee, ea⟩ := cb_some ea
      cases ea
      obtain ⟨-, u⟩ := beg_x hX _ _ _ ee
      have w : fo (fBeg (upd2 gm 0 0 0) (gc 43)) (gm 0 1).toInt.toNat = fo (fLn p1.toInt (upd2 gm 0 0 0) (gd 31) (gd 32)) (gm 0 1).toInt.toNat := fo_c (fun i hi a => by unfold fLn; rw [if_neg (by omega), if_neg (by omega)]; unfold fBeg; rw [(hS i hi).1])
      rw [u, v, w]
end
