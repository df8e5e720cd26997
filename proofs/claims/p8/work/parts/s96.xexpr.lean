/-! ===== the class's expressions ===== -/
def kF (g g1 : gT) : Prop := FX [3, 4, 5, 6, 7, 8] [4, 22] g g1 ∧ g1 4 3 = g 4 3
theorem kF.refl {g : gT} : kF g g := ⟨FX.refl, rfl⟩
theorem kF.tr {g g1 g2 : gT} (h1 : kF g g1) (h2 : kF g1 g2) : kF g g2 := ⟨h1.1.tr h2.1, h2.2.trans h1.2⟩
theorem kF.p {g g1 : gT} {A : List Nat} (h : FX A [] g g1) (hA : ∀ j ∈ A, j ∈ [3, 4, 5, 6, 7, 8]) : kF g g1 := ⟨h.mo hA (by decide), by rw [h.2 4 (by decide) (by decide)]⟩
theorem kF.k {g g1 : gT} (h : FX [] [4, 22] g g1) (h3 : g1 4 3 = g 4 3) : kF g g1 := ⟨h.mo (by decide) (by decide), h3⟩
/-- the code has grown by c -/
def kRd (g g1 : gT) (c : List Int) : Prop := (g1 4 4).toInt = (g 4 4).toInt + (c.length : Int) ∧ (∀ i, i < (g 4 4).toInt.toNat → g1 22 i = g 22 i) ∧ ∀ i, i < c.length → (g1 22 ((g 4 4).toInt.toNat + i)).toInt = c.getD i 0
theorem kRd.nil {g g1 : gT} (h4 : g1 4 4 = g 4 4) (h22 : g1 22 = g 22) : kRd g g1 [] := ⟨by rw [h4]; show _ = _ + (0 : Int); omega, fun i _ => by rw [h22], fun i hi => absurd hi (Nat.not_lt_zero _)⟩
theorem kRd.p {g g1 : gT} {A : List Nat} (h : FX A [] g g1) : kRd g g1 [] := kRd.nil (by rw [h.2 4 (by decide) (by decide)]) (h.2 22 (by decide) (by decide))
theorem kRd.tr {g g1 g2 : gT} {c c' : List Int} (h0 : 0 ≤ (g 4 4).toInt) (h1 : kRd g g1 c) (h2 : kRd g1 g2 c') : kRd g g2 (c ++ c') := by
  obtain ⟨a1, a2, a3⟩ := h1
  obtain ⟨b1, b2, b3⟩ := h2
  have e : (g1 4 4).toInt.toNat = (g 4 4).toInt.toNat + c.length := by omega
  rw [e] at b2 b3
  refine ⟨by rw [List.length_append]; omega, fun i hi => (b2 i (by omega)).trans (a2 i hi), fun i hi => ?_⟩
  rw [List.length_append] at hi
  by_cases hc : i < c.length
  · rw [b2 _ (by omega), a3 i hc]
    rw [List.getD_eq_getElem?_getD, List.getD_eq_getElem?_getD, List.getElem?_append_left hc]
  · have h9 := b3 (i - c.length) (by omega)
    rw [show (g 4 4).toInt.toNat + c.length + (i - c.length) = (g 4 4).toInt.toNat + i by omega] at h9
    rw [h9, List.getD_eq_getElem?_getD, List.getD_eq_getElem?_getD, List.getElem?_append_right (by omega)]
def XB (p : Nat) (g g1 : gT) : Prop := kF g g1 ∧ bX p g1
def XP (b : Nat → Int32) (n : Nat) (g : gT) (r : xR) (g1 : gT) : Prop := kF g g1 ∧ (match r with
  | .error p => bX p g1
  | .ok q => cX b n q.2 g1 ∧ kRd g g1 q.1)
theorem XP.e {b : Nat → Int32} {n p : Nat} {g g1 : gT} (h : XB p g g1) : XP b n g (.error p) g1 := h
theorem XB.tr {p : Nat} {g g1 g2 : gT} (h1 : kF g g1) (h2 : XB p g1 g2) : XB p g g2 := ⟨h1.tr h2.1, h2.2⟩
/-- there is room for the code of what is left -/
def rm (n P : Nat) (g : gT) : Prop := (g 4 4).toInt + (n : Int) ≤ 700 + (P : Int)
section XA
variable {ρ : Type} {Q : ρ → gT → lT → Prop} {b : Nat → Int32} {n P : Nat} {g : gT} {L : lT} {fu : Nat}
theorem x_add {v : Int32} {K : Unit → gT → lT → Option (ρ × zS)} (hI : zI XT g) (hu : (g 4 4).toInt < 700) (h : ∀ g1, zI XT g1 → FX [] [4, 22] g g1 → g1 4 3 = g 4 3 → kRd g g1 [v.toInt] → Ex (K () g1 L) Q) : Ex (cb (fX8_add_4 fu v g L) K) Q := by
  have q4 := hI 4 4 0 700 rfl
  have ew : (g 4 4 + 1).toInt = (g 4 4).toInt + 1 := ic_addc rfl (by decide) (by omega) (by omega)
  have e : fX8_add_4 fu v g L = some ((), (upd2 (upd2 g 22 (g 4 4).toNatClampNeg v) 4 4 (g 4 4 + 1), L)) := by
    unfold fX8_add_4 fX8_add_4_p32
    rw [if_neg (fun h => by have := icc_le (m := 700) (n := (g 4 4).toInt) (by decide) rfl h; omega), ck_eq (by omega) (by omega)]
    rfl
  rw [e]
  refine h _ ((hI.updN rfl).upd (lo := 0) (hi := 700) rfl (by omega) (by omega)) ((FX.refl.uk (by decide) (by decide)).uk (by decide) (by decide)) rfl ⟨?_, fun i hi => ?_, fun i hi => ?_⟩
  · show (upd2 (upd2 g 22 (g 4 4).toNatClampNeg v) 4 4 (g 4 4 + 1) 4 4).toInt = (g 4 4).toInt + (1 : Int)
    rw [upd2_at]; exact ew
  · show upd2 (upd2 g 22 (g 4 4).toNatClampNeg v) 4 4 (g 4 4 + 1) 22 i = g 22 i
    rw [upd2_nk (by decide), upd2_nj (show i ≠ (g 4 4).toNatClampNeg by rw [nc]; omega)]
  · have hi : i < 1 := hi
    have e0 : i = 0 := by omega
    subst e0
    show (upd2 (upd2 g 22 (g 4 4).toNatClampNeg v) 4 4 (g 4 4 + 1) 22 ((g 4 4).toNatClampNeg)).toInt = v.toInt
    rw [upd2_nk (by decide), upd2_at]
theorem x_addB {v : Int32} {K : Unit → gT → lT → Option (ρ × zS)} (hI : zI XT g) (h : ∀ g1, zI XT g1 → FX [] [4, 22] g g1 → g1 4 3 = g 4 3 → Ex (K () g1 L) Q) : Ex (cb (fX8_add_4 fu v g L) K) Q := by
  by_cases hu : (g 4 4).toInt < 700
  · exact x_add hI hu (fun g1 k1 k2 k3 _ => h g1 k1 k2 k3)
  · have e : fX8_add_4 fu v g L = some ((), (g, L)) := by
      unfold fX8_add_4 fX8_add_4_p32
      rw [if_pos (ic_le.mpr (show (700 : Int32).toInt ≤ (g 4 4).toInt by have : (700 : Int32).toInt = 700 := rfl; omega))]
    rw [e]; exact h g hI FX.refl rfl
/-- add behind a fault -/
theorem x_addX {p : Nat} {v : Int32} {g0 : gT} {K : Unit → gT → lT → Option (ρ × zS)} (hb : XB p g0 g) (h : ∀ g1, XB p g0 g1 → Ex (K () g1 L) Q) : Ex (cb (fX8_add_4 fu v g L) K) Q := x_addB hb.2.1 (fun g1 k1 k2 k3 => h g1 ⟨hb.1.tr (kF.k k2 k3), hb.2.fr k1 k2 (by decide) (by decide) (by decide)⟩)
theorem x_vln {K : Int32 → gT → lT → Option (ρ × zS)} (hfu : 1180591620717411303424 ≤ fu) (hc : cX b n P g) (h : ∀ x : Int32, (vW b n P < 6 ∧ x.toInt = (vW b n P : Int)) ∨ (¬ vW b n P < 6 ∧ x.toInt = -1) → Ex (K x g L) Q) : Ex (cb (fX6_valueNow_5 fu g L) K) Q := by
  have hI := hc.1
  have w : ∀ k, xW g k ↔ isW b n P k := fun k => xW_isW hc k
  have key : Ex (fX6_valueNow_5 fu g L) (fun (x : Int32) g1 L1 => g1 = g ∧ L1 = L ∧ ((vW b n P < 6 ∧ x.toInt = (vW b n P : Int)) ∨ (¬ vW b n P < 6 ∧ x.toInt = -1))) := by
    unfold fX6_valueNow_5 fX6_valueNow_5_p69
    refine e_overW hfu hI (fun h0 => ?_) (fun h0 => ?_)
    · have e : vW b n P = 0 := by unfold vW; rw [wB_t ((w 0).mp h0)]; rfl
      exact Ex.ret ⟨rfl, rfl, Or.inl ⟨by rw [e]; decide, by rw [e]; rfl⟩⟩
    have f0 := wB_f (fun h => h0 ((w 0).mpr h))
    refine e_lateW hfu hI (fun h1 => ?_) (fun h1 => ?_)
    · have e : vW b n P = 1 := by unfold vW; rw [f0, wB_t ((w 1).mp h1)]; rfl
      exact Ex.ret ⟨rfl, rfl, Or.inl ⟨by rw [e]; decide, by rw [e]; rfl⟩⟩
    have f1 := wB_f (fun h => h1 ((w 1).mpr h))
    refine e_clockW hfu hI (fun h2 => ?_) (fun h2 => ?_)
    · have e : vW b n P = 2 := by unfold vW; rw [f0, f1, wB_t ((w 2).mp h2)]; rfl
      exact Ex.ret ⟨rfl, rfl, Or.inl ⟨by rw [e]; decide, by rw [e]; rfl⟩⟩
    have f2 := wB_f (fun h => h2 ((w 2).mpr h))
    refine e_roomW hfu hI (fun h3 => ?_) (fun h3 => ?_)
    · have e : vW b n P = 3 := by unfold vW; rw [f0, f1, f2, wB_t ((w 3).mp h3)]; rfl
      exact Ex.ret ⟨rfl, rfl, Or.inl ⟨by rw [e]; decide, by rw [e]; rfl⟩⟩
    have f3 := wB_f (fun h => h3 ((w 3).mpr h))
    refine e_peopleW hfu hI (fun h4 => ?_) (fun h4 => ?_)
    · have e : vW b n P = 4 := by unfold vW; rw [f0, f1, f2, f3, wB_t ((w 4).mp h4)]; rfl
      exact Ex.ret ⟨rfl, rfl, Or.inl ⟨by rw [e]; decide, by rw [e]; rfl⟩⟩
    have f4 := wB_f (fun h => h4 ((w 4).mpr h))
    refine e_lessonW hfu hI (fun h5 => ?_) (fun h5 => ?_)
    · have e : vW b n P = 5 := by unfold vW; rw [f0, f1, f2, f3, f4, wB_t ((w 5).mp h5)]; rfl
      exact Ex.ret ⟨rfl, rfl, Or.inl ⟨by rw [e]; decide, by rw [e]; rfl⟩⟩
    have f5 := wB_f (fun h => h5 ((w 5).mpr h))
    have e : vW b n P = 6 := by unfold vW; rw [f0, f1, f2, f3, f4, f5]; rfl
    exact Ex.ret ⟨rfl, rfl, Or.inr ⟨by rw [e]; decide, rfl⟩⟩
  refine Ex.cb key (fun x g1 L1 hx => ?_)
  obtain ⟨rfl, rfl, hx⟩ := hx
  exact h x hx
end XA
/-- what is asked of the expression one deeper -/
def Rc (b : Nat → Int32) (n d : Nat) (rc : Int32 → gT → lT → Option (Unit × zS)) : Prop := d ≤ 5 → ∀ (p1 : Int32) (g : gT) (L : lT) (P f : Nat), p1.toInt = (d : Int) + 1 → cX b n P g → rm n P g → 16 * (n + 1 - P) + 8 ≤ f → Ex (rc p1 g L) (fun (_ : Unit) g1 L1 => XP b n g (xs b n f 6 (d + 1) [] P) g1)
theorem kRd.len {g g1 : gT} {c : List Int} (h : kRd g g1 c) : (g1 4 4).toInt = (g 4 4).toInt + (c.length : Int) := h.1
theorem rm.fx {n P : Nat} {g g1 : gT} {A : List Nat} (h : rm n P g) (hF : FX A [] g g1) : rm n P g1 := by unfold rm; rw [hF.2 4 (by decide) (by decide)]; exact h
set_option maxHeartbeats 4000000 in
theorem bX_part {fu : Nat} {rc : Int32 → gT → lT → Option (Unit × zS)} {p1 : Int32} {g : gT} {L : lT} {p : Nat} (hb : bX p g) : Ex (fX6_readPart_5 fu rc p1 g L) (fun (_ : Unit) g1 L1 => XB p g g1) := by
  have hk := hb.2.1
  unfold fX6_readPart_5 fX6_readPart_5_p106 fX6_readPart_5_p111
  rw [if_neg (fun h => by have := icc_eq (m := (g 5 4).toInt) (n := 1) rfl (by decide) h; omega), if_neg (fun h => by have := icc_eq (m := (g 5 4).toInt) (n := 2) rfl (by decide) h; omega)]
  exact x_sgnB hk (x_refB hk (Ex.ret ⟨kF.refl, hb⟩))
set_option maxHeartbeats 4000000 in
theorem cX_part {fu : Nat} (hfu : 1180591620717411303424 ≤ fu) {rc : Int32 → gT → lT → Option (Unit × zS)} {b : Nat → Int32} {n d P f : Nat} (hrc : Rc b n d rc) {p1 : Int32} {g : gT} {L : lT} (hp : p1.toInt = (d : Int)) (hc : cX b n P g) (hr : rm n P g) (hf : 16 * (n + 1 - P) + 1 ≤ f) : Ex (fX6_readPart_5 fu rc p1 g L) (fun (_ : Unit) g1 L1 => XP b n g (xs b n f 0 d [] P) g1) := by
  obtain ⟨f, rfl⟩ : ∃ f', f = f' + 1 := ⟨f - 1, by omega⟩
  rw [xe_0]
  obtain ⟨a1, a2, a3, a4, a5, a6, a7, a8, a9, a10, a11⟩ := id hc
  have q6 := a1 5 6 0 9999 rfl
  have q4 := a1 4 4 0 700 rfl
  have hn := nx_le (b := b) a3
  have hr' : (g 4 4).toInt + (n : Int) ≤ 700 + (P : Int) := hr
  unfold fX6_readPart_5 fX6_readPart_5_p106 fX6_readPart_5_p52 fX6_readPart_5_p111
  refine Ex.ite (fun c1 => ?_) (fun c1 => ?_)
  · have c1 := icc_eq (m := (g 5 4).toInt) (n := 1) rfl (by decide) c1
    have hk : tK b n P = 1 := by omega
    have hlt : P < n := tK_n0 (b := b) (by omega)
    rw [if_pos hk]
    refine x_num hfu hc (fun hnu r g1 L1 hrv k1 k2 => ?_) (fun hnu g1 k1 k2 => ?_)
    · rw [if_pos hnu.2.1]
      have e4 : g1 4 4 = g 4 4 := by rw [k2.2 4 (by decide) (by decide)]
      refine x_add k1.1 (by rw [e4]; omega) (fun g2 m1 m2 m3 m4 => Ex.ret ⟨(kF.p k2 (by decide)).tr (kF.k m2 m3), k1.fr m1 m2 (by decide) (by decide) (by decide) (by decide) (by decide) (by decide) (by decide) (by decide), ?_⟩)
      have := kRd.tr q4.1 (kRd.p k2) m4
      rw [hrv] at this
      exact this
    · rw [if_neg (fun h => hnu ⟨hk, h, by have : (0 : Int32).toInt = 0 := rfl; omega, by have : (9999 : Int32).toInt = 9999 := rfl; omega⟩)]
      exact x_addX ⟨kF.p k2 (by decide), k1⟩ (fun g2 m => Ex.ret m)
  have c1 := icc_neq (m := (g 5 4).toInt) (n := 1) rfl (by decide) c1
  rw [if_neg (show ¬ tK b n P = 1 by omega)]
  refine Ex.ite (fun c2 => ?_) (fun c2 => ?_)
  · have c2 := icc_eq (m := (g 5 4).toInt) (n := 2) rfl (by decide) c2
    have hk : tK b n P = 2 := by omega
    have hlt : P < n := tK_n0 (b := b) (by omega)
    rw [if_pos hk]
    refine x_vln hfu hc (fun x hx => ?_)
    refine Ex.ite (fun c3 => ?_) (fun c3 => ?_)
    · have c3 := icc_eq (m := x.toInt) (n := -1) rfl (by decide) c3
      have hv : ¬ vW b n P < 6 := by omega
      rw [if_neg hv]
      refine x_ref (by decide) hc (fun g1 k1 k2 => ?_)
      refine x_addX ⟨kF.p k2 (by decide), k1⟩ (fun g2 m => ?_)
      exact x_advB m.2.2.1 (Ex.ret m)
    · have c3 := icc_neq (m := x.toInt) (n := -1) rfl (by decide) c3
      have hv : vW b n P < 6 ∧ x.toInt = (vW b n P : Int) := by omega
      rw [if_pos hv.1]
      have ex : ((-1) - x).toInt = -1 - (vW b n P : Int) := by rw [ic_subc (m := -1) (by decide) hv.2 (by omega) (by omega)]
      refine x_add a1 (by omega) (fun g2 m1 m2 m3 m4 => ?_)
      rw [ex] at m4
      have hc2 := hc.fr m1 m2 (by decide) (by decide) (by decide) (by decide) (by decide) (by decide) (by decide) (by decide)
      refine x_adv hfu hc2 (fun g3 L3 k1 k2 => Ex.ret ⟨(kF.k m2 m3).tr (kF.p k2 (by decide)), k1, ?_⟩)
      have := kRd.tr q4.1 m4 (kRd.p k2)
      rw [List.append_nil] at this
      exact this
  have c2 := icc_neq (m := (g 5 4).toInt) (n := 2) rfl (by decide) c2
  rw [if_neg (show ¬ tK b n P = 2 by omega)]
  refine x_sgn hc (fun hs => ?_) (fun hs => ?_)
  rotate_left
  · rw [sB_f (c := 40) hs]
    exact x_ref (by decide) hc (fun g1 k1 k2 => Ex.ret ⟨kF.p k2 (by decide), k1⟩)
  rw [sB_t (c := 40) hs]
  have hlt := isS_lt hs
  have hnl := hn.2.2 hlt
  show Ex _ (fun (_ : Unit) g1 L1 => XP b n g (if d ≤ 5 then _ else _) g1)
  refine Ex.ite (fun c3 => ?_) (fun c3 => ?_)
  · have c3 := icc_lt (m := 5) (n := p1.toInt) (by decide) rfl c3
    rw [if_neg (show ¬ d ≤ 5 by omega)]
    exact x_ref (by decide) hc (fun g1 k1 k2 => Ex.ret ⟨kF.p k2 (by decide), k1⟩)
  have c3 := icc_nlt (m := 5) (n := p1.toInt) (by decide) rfl c3
  have hd : d ≤ 5 := by omega
  rw [if_pos hd]
  refine x_adv hfu hc (fun g1 L1 k1 k2 => ?_)
  have e4 : g1 4 4 = g 4 4 := by rw [k2.2 4 (by decide) (by decide)]
  have hr1 : rm n (nx b n P) g1 := by unfold rm; rw [e4]; omega
  have ep : (p1 + 1).toInt = (d : Int) + 1 := ic_addc hp (by decide) (by omega) (by omega)
  refine Ex.cb (hrc hd (p1 + 1) g1 L1 (nx b n P) f ep k1 hr1 (by omega)) (fun _ g2 L2 hx => ?_)
  have kf1 := kF.p k2 (by decide)
  cases hxs : xs b n f 6 (d + 1) [] (nx b n P) with
  | error p =>
    rw [hxs] at hx
    exact x_rsgB hx.2.2.1 (Ex.ret ⟨kf1.tr hx.1, hx.2⟩)
  | ok q =>
    rw [hxs] at hx
    obtain ⟨hx1, hx2, hx3⟩ := hx
    show Ex _ (fun (_ : Unit) g1 L1 => XP b n g (if sB b n q.2 41 = true then Except.ok (q.1, nx b n q.2) else Except.error q.2) g1)
    refine x_rsg hfu hx2 (fun hs2 g3 L3 m1 m2 => ?_) (fun hs2 g3 m1 m2 => ?_)
    · rw [sB_t (c := 41) hs2]
      refine Ex.ret ⟨(kf1.tr hx1).tr (kF.p m2 (by decide)), m1, ?_⟩
      have := kRd.tr q4.1 (kRd.p k2) (kRd.tr (by rw [e4]; exact q4.1) hx3 (kRd.p m2))
      rw [List.append_nil] at this
      exact this
    · rw [sB_f (c := 41) hs2]
      exact Ex.ret ⟨(kf1.tr hx1).tr (kF.p m2 (by decide)), m1⟩
set_option maxHeartbeats 4000000 in
theorem L_readProduct {fu : Nat} (hfu : 1180591620717411303424 ≤ fu) {rc : Int32 → gT → lT → Option (Unit × zS)} {b : Nat → Int32} {n d : Nat} (hrc : Rc b n d rc) {p1 : Int32} {g0 g : gT} {L : lT} {R : xR} (q0 : 0 ≤ (g0 4 4).toInt) (hp : p1.toInt = (d : Int)) (hI : (∃ (acc : List Int) (P f : Nat), R = xs b n f 7 d acc P ∧ cX b n P g ∧ kRd g0 g acc ∧ kF g0 g ∧ rm n P g ∧ 16 * (n + 1 - P) + 2 ≤ f) ∨ (∃ p, R = .error p ∧ XB p g0 g)) : Ex (fX6_readProduct_5_l7 fu rc p1 0 g L) (fun (_ : Unit) g1 L1 => XP b n g0 R g1) := by
  unfold fX6_readProduct_5_l7
  refine Ex.loop (α := Int32 × gT × lT) (fun v => (0 ≤ v.1.toInt ∧ v.1.toInt ≤ 700) ∧ ((∃ (acc : List Int) (P f : Nat), R = xs b n f 7 d acc P ∧ cX b n P v.2.1 ∧ kRd g0 v.2.1 acc ∧ kF g0 v.2.1 ∧ rm n P v.2.1 ∧ 16 * (n + 1 - P) + 2 ≤ f ∧ v.1.toInt ≤ (P : Int)) ∨ (∃ p, R = .error p ∧ XB p g0 v.2.1))) (fun v => 701 - v.1.toInt) (by omega) (by show 701 - (0 : Int32).toInt < (fu : Int); have : (0 : Int32).toInt = 0 := rfl; omega) ⟨(show 0 ≤ (0 : Int32).toInt ∧ (0 : Int32).toInt ≤ 700 from by decide), ?_⟩ (fun k7 v hv ih => ?_)
  · rcases hI with ⟨acc, P, f, h1, h2, h3, h4, h5, h6⟩ | hI
    · exact Or.inl ⟨acc, P, f, h1, h2, h3, h4, h5, h6, show (0 : Int) ≤ (P : Int) by omega⟩
    · exact Or.inr hI
  clear hI
  obtain ⟨v2, g, L⟩ := v
  obtain ⟨hv, hI⟩ := hv
  have hv : 0 ≤ v2.toInt ∧ v2.toInt ≤ 700 := hv
  show Ex (fX6_readProduct_5_s7 fu rc p1 k7 v2 g L) _
  unfold fX6_readProduct_5_s7 fX6_readProduct_5_p75
  rcases hI with ⟨acc, P, f, h1, h2, h3, h4, h5, h6, h7⟩ | ⟨p, h1, h2⟩
  rotate_left
  · have h2 : XB p g0 g := h2
    have hk := h2.2.2.1
    rw [h1]
    exact Ex.ite (fun _ => Ex.ret h2) (fun _ => x_sgnB hk (x_sgnB hk (Ex.ret h2)))
  have h2 : cX b n P g := h2
  have h3 : kRd g0 g acc := h3
  have h4 : kF g0 g := h4
  have h5 : rm n P g := h5
  have h7 : v2.toInt ≤ (P : Int) := h7
  obtain ⟨f, rfl⟩ : ∃ f', f = f' + 1 := ⟨f - 1, by omega⟩
  rw [xe_7] at h1
  obtain ⟨a1, a2, a3, a4, a5, a6, a7, a8, a9, a10, a11⟩ := id h2
  have q4 := a1 4 4 0 700 rfl
  have hn := nx_le (b := b) a3
  have h5' : (g 4 4).toInt + (n : Int) ≤ 700 + (P : Int) := h5
  have more : ∀ (t0 : Int32) (K : Unit → gT → lT → Option (Unit × zS)), P < n → R = eb (xs b n f 0 d [] (nx b n P)) (fun c Q => xs b n f 7 d (acc ++ c ++ [t0.toInt]) Q) → v2.toInt < 700 → (∀ g' L', K () g' L' = cb (fX6_readPart_5 fu rc p1 g' L') (fun x g'' L'' => cb (fX8_add_4 fu t0 g'' L'') (fun y g3 L3 => k7 ((v2 + 1), g3, L3)))) → Ex (cb (fX6_advance_5 fu g L) K) (fun (_ : Unit) g1 L1 => XP b n g0 R g1) := by
    intro t0 K hlt hR hv7 hK
    have hnl := hn.2.2 hlt
    generalize hw : v2 + 1 = w at hK
    have ew : w.toInt = v2.toInt + 1 := by rw [← hw]; exact ic_addc rfl (by decide) (by omega) (by omega)
    refine x_adv hfu h2 (fun g1 L1 k1 k2 => ?_)
    rw [hK]
    have e4 : g1 4 4 = g 4 4 := by rw [k2.2 4 (by decide) (by decide)]
    have hr1 : rm n (nx b n P) g1 := by unfold rm; rw [e4]; omega
    have kf1 := h4.tr (kF.p k2 (by decide))
    refine Ex.cb (cX_part hfu hrc hp k1 hr1 (f := f) (by omega)) (fun _ g2 L2 hx => ?_)
    cases hxs : xs b n f 0 d [] (nx b n P) with
    | error p =>
      rw [hxs] at hx hR
      refine x_addX ⟨kf1.tr hx.1, hx.2⟩ (fun g3 m => ?_)
      exact ih (w, g3, L2) ⟨(show 0 ≤ w.toInt ∧ w.toInt ≤ 700 by omega), Or.inr ⟨p, hR, m⟩⟩ (show 701 - w.toInt < 701 - v2.toInt by omega) (show 0 < 701 - v2.toInt by omega)
    | ok q =>
      rw [hxs] at hx hR
      obtain ⟨hx1, hx2, hx3⟩ := hx
      have hl := xs_len f 0 d [] (nx b n P) q.1 q.2 hn.2.1 hxs (fun _ => rfl)
      have hl3 := hl.2.2.1
      simp only [List.length_nil] at hl3
      have e5 := kRd.len hx3
      rw [e4] at e5
      refine x_add hx2.1 (by omega) (fun g3 m1 m2 m3 m4 => ?_)
      have e6 := kRd.len m4
      have e6 : (g3 4 4).toInt = (g2 4 4).toInt + (1 : Int) := e6
      refine ih (w, g3, L2) ⟨(show 0 ≤ w.toInt ∧ w.toInt ≤ 700 by omega), Or.inl ⟨acc ++ q.1 ++ [t0.toInt], q.2, f, hR, hx2.fr m1 m2 (by decide) (by decide) (by decide) (by decide) (by decide) (by decide) (by decide) (by decide), ?_, (kf1.tr hx1).tr (kF.k m2 m3), ?_, by omega, ?_⟩⟩ (show 701 - w.toInt < 701 - v2.toInt by omega) (show 0 < 701 - v2.toInt by omega)
      · have := kRd.tr q0 h3 (kRd.tr q4.1 (kRd.p k2) (kRd.tr (by rw [e4]; exact q4.1) hx3 m4))
        rw [List.nil_append, ← List.append_assoc] at this
        exact this
      · show (g3 4 4).toInt + (n : Int) ≤ 700 + (q.2 : Int)
        omega
      · show w.toInt ≤ (q.2 : Int)
        omega
  have stop : ∀ L1 : lT, R = .ok (acc, P) → Ex (some ((), (g, L1))) (fun (_ : Unit) g1 L1 => XP b n g0 R g1) := fun L1 hR => Ex.ret (by rw [hR]; exact ⟨h4, h2, h3⟩)
  refine Ex.ite (fun c7 => stop L ?_) (fun c7 => ?_)
  · have c7 := icc_le (m := 700) (n := v2.toInt) (by decide) rfl c7
    rw [sB_f (fun h => by have := isS_lt h; omega), sB_f (fun h => by have := isS_lt h; omega)] at h1
    exact h1
  have c7 := icc_nle (m := 700) (n := v2.toInt) (by decide) rfl c7
  have P32 : ∀ hs : (isS b n P 42 ∨ isS b n P 47), Ex (fX6_readProduct_5_p32 fu rc k7 p1 v2 g L) (fun (_ : Unit) g1 L1 => XP b n g0 R g1) := by
    intro hs
    unfold fX6_readProduct_5_p32 fX6_readProduct_5_p48
    refine x_sgn h2 (fun s1 => ?_) (fun s1 => ?_)
    · rw [sB_t (c := 42) s1] at h1
      exact more (-9) _ (isS_lt s1) h1 c7 (fun _ _ => rfl)
    · have s2 : isS b n P 47 := hs.resolve_left s1
      rw [sB_f (c := 42) s1, sB_t (c := 47) s2] at h1
      exact more (-10) _ (isS_lt s2) h1 c7 (fun _ _ => rfl)
  refine x_sgn h2 (fun s1 => P32 (Or.inl s1)) (fun s1 => ?_)
  refine x_sgn h2 (fun s2 => P32 (Or.inr s2)) (fun s2 => stop L ?_)
  rw [sB_f (c := 42) s1, sB_f (c := 47) s2] at h1
  exact h1
theorem bX_product {fu : Nat} (hfu : 1180591620717411303424 ≤ fu) {rc : Int32 → gT → lT → Option (Unit × zS)} {p1 : Int32} {g : gT} {L : lT} {p : Nat} (hb : bX p g) : Ex (fX6_readProduct_5 fu rc p1 g L) (fun (_ : Unit) g1 L1 => XB p g g1) := by
  unfold fX6_readProduct_5
  refine Ex.cb (bX_part hb) (fun _ g1 L1 hx => ?_)
  unfold fX6_readProduct_5_l7
  refine Ex.loop (α := Int32 × gT × lT) (fun v => XB p g v.2.1) (fun v => 0) (by omega) (by omega) hx (fun k7 v hv ih => ?_)
  obtain ⟨v2, g2, L2⟩ := v
  have h2 : XB p g g2 := hv
  have hk := h2.2.2.1
  show Ex (fX6_readProduct_5_s7 fu rc p1 k7 v2 g2 L2) _
  unfold fX6_readProduct_5_s7 fX6_readProduct_5_p75
  exact Ex.ite (fun _ => Ex.ret h2) (fun _ => x_sgnB hk (x_sgnB hk (Ex.ret h2)))
theorem cX_product {fu : Nat} (hfu : 1180591620717411303424 ≤ fu) {rc : Int32 → gT → lT → Option (Unit × zS)} {b : Nat → Int32} {n d P f : Nat} (hrc : Rc b n d rc) {p1 : Int32} {g : gT} {L : lT} (hp : p1.toInt = (d : Int)) (hc : cX b n P g) (hr : rm n P g) (hf : 16 * (n + 1 - P) + 3 ≤ f) : Ex (fX6_readProduct_5 fu rc p1 g L) (fun (_ : Unit) g1 L1 => XP b n g (xs b n f 1 d [] P) g1) := by
  obtain ⟨f, rfl⟩ : ∃ f', f = f' + 1 := ⟨f - 1, by omega⟩
  rw [xe_1]
  have q4 := hc.1 4 4 0 700 rfl
  have hr' : (g 4 4).toInt + (n : Int) ≤ 700 + (P : Int) := hr
  unfold fX6_readProduct_5
  refine Ex.cb (cX_part hfu hrc hp hc hr (f := f) (by omega)) (fun _ g2 L2 hx => ?_)
  refine L_readProduct hfu hrc q4.1 hp ?_
  cases hxs : xs b n f 0 d [] P with
  | error p =>
    rw [hxs] at hx
    exact Or.inr ⟨p, rfl, hx⟩
  | ok q =>
    rw [hxs] at hx
    obtain ⟨hx1, hx2, hx3⟩ := hx
    have hl := xs_len f 0 d [] P q.1 q.2 hc.2.2.1 hxs (fun _ => rfl)
    have hl3 := hl.2.2.1
    simp only [List.length_nil] at hl3
    have e5 := kRd.len hx3
    refine Or.inl ⟨q.1, q.2, f, rfl, hx2, hx3, hx1, ?_, by omega⟩
    show (g2 4 4).toInt + (n : Int) ≤ 700 + (q.2 : Int)
    omega
set_option maxHeartbeats 4000000 in
theorem L_readSum {fu : Nat} (hfu : 1180591620717411303424 ≤ fu) {rc : Int32 → gT → lT → Option (Unit × zS)} {b : Nat → Int32} {n d : Nat} (hrc : Rc b n d rc) {p1 : Int32} {g0 g : gT} {L : lT} {R : xR} (q0 : 0 ≤ (g0 4 4).toInt) (hp : p1.toInt = (d : Int)) (hI : (∃ (acc : List Int) (P f : Nat), R = xs b n f 8 d acc P ∧ cX b n P g ∧ kRd g0 g acc ∧ kF g0 g ∧ rm n P g ∧ 16 * (n + 1 - P) + 2 ≤ f) ∨ (∃ p, R = .error p ∧ XB p g0 g)) : Ex (fX6_readSum_5_l7 fu rc p1 0 g L) (fun (_ : Unit) g1 L1 => XP b n g0 R g1) := by
  unfold fX6_readSum_5_l7
  refine Ex.loop (α := Int32 × gT × lT) (fun v => (0 ≤ v.1.toInt ∧ v.1.toInt ≤ 700) ∧ ((∃ (acc : List Int) (P f : Nat), R = xs b n f 8 d acc P ∧ cX b n P v.2.1 ∧ kRd g0 v.2.1 acc ∧ kF g0 v.2.1 ∧ rm n P v.2.1 ∧ 16 * (n + 1 - P) + 2 ≤ f ∧ v.1.toInt ≤ (P : Int)) ∨ (∃ p, R = .error p ∧ XB p g0 v.2.1))) (fun v => 701 - v.1.toInt) (by omega) (by show 701 - (0 : Int32).toInt < (fu : Int); have : (0 : Int32).toInt = 0 := rfl; omega) ⟨(show 0 ≤ (0 : Int32).toInt ∧ (0 : Int32).toInt ≤ 700 from by decide), ?_⟩ (fun k7 v hv ih => ?_)
  · rcases hI with ⟨acc, P, f, h1, h2, h3, h4, h5, h6⟩ | hI
    · exact Or.inl ⟨acc, P, f, h1, h2, h3, h4, h5, h6, show (0 : Int) ≤ (P : Int) by omega⟩
    · exact Or.inr hI
  clear hI
  obtain ⟨v2, g, L⟩ := v
  obtain ⟨hv, hI⟩ := hv
  have hv : 0 ≤ v2.toInt ∧ v2.toInt ≤ 700 := hv
  show Ex (fX6_readSum_5_s7 fu rc p1 k7 v2 g L) _
  unfold fX6_readSum_5_s7 fX6_readSum_5_p75
  rcases hI with ⟨acc, P, f, h1, h2, h3, h4, h5, h6, h7⟩ | ⟨p, h1, h2⟩
  rotate_left
  · have h2 : XB p g0 g := h2
    have hk := h2.2.2.1
    rw [h1]
    exact Ex.ite (fun _ => Ex.ret h2) (fun _ => x_sgnB hk (x_sgnB hk (Ex.ret h2)))
  have h2 : cX b n P g := h2
  have h3 : kRd g0 g acc := h3
  have h4 : kF g0 g := h4
  have h5 : rm n P g := h5
  have h7 : v2.toInt ≤ (P : Int) := h7
  obtain ⟨f, rfl⟩ : ∃ f', f = f' + 1 := ⟨f - 1, by omega⟩
  rw [xe_8] at h1
  obtain ⟨a1, a2, a3, a4, a5, a6, a7, a8, a9, a10, a11⟩ := id h2
  have q4 := a1 4 4 0 700 rfl
  have hn := nx_le (b := b) a3
  have h5' : (g 4 4).toInt + (n : Int) ≤ 700 + (P : Int) := h5
  have more : ∀ (t0 : Int32) (K : Unit → gT → lT → Option (Unit × zS)), P < n → R = eb (xs b n f 1 d [] (nx b n P)) (fun c Q => xs b n f 8 d (acc ++ c ++ [t0.toInt]) Q) → v2.toInt < 700 → (∀ g' L', K () g' L' = cb (fX6_readProduct_5 fu rc p1 g' L') (fun x g'' L'' => cb (fX8_add_4 fu t0 g'' L'') (fun y g3 L3 => k7 ((v2 + 1), g3, L3)))) → Ex (cb (fX6_advance_5 fu g L) K) (fun (_ : Unit) g1 L1 => XP b n g0 R g1) := by
    intro t0 K hlt hR hv7 hK
    have hnl := hn.2.2 hlt
    generalize hw : v2 + 1 = w at hK
    have ew : w.toInt = v2.toInt + 1 := by rw [← hw]; exact ic_addc rfl (by decide) (by omega) (by omega)
    refine x_adv hfu h2 (fun g1 L1 k1 k2 => ?_)
    rw [hK]
    have e4 : g1 4 4 = g 4 4 := by rw [k2.2 4 (by decide) (by decide)]
    have hr1 : rm n (nx b n P) g1 := by unfold rm; rw [e4]; omega
    have kf1 := h4.tr (kF.p k2 (by decide))
    refine Ex.cb (cX_product hfu hrc hp k1 hr1 (f := f) (by omega)) (fun _ g2 L2 hx => ?_)
    cases hxs : xs b n f 1 d [] (nx b n P) with
    | error p =>
      rw [hxs] at hx hR
      refine x_addX ⟨kf1.tr hx.1, hx.2⟩ (fun g3 m => ?_)
      exact ih (w, g3, L2) ⟨(show 0 ≤ w.toInt ∧ w.toInt ≤ 700 by omega), Or.inr ⟨p, hR, m⟩⟩ (show 701 - w.toInt < 701 - v2.toInt by omega) (show 0 < 701 - v2.toInt by omega)
    | ok q =>
      rw [hxs] at hx hR
      obtain ⟨hx1, hx2, hx3⟩ := hx
      have hl := xs_len f 1 d [] (nx b n P) q.1 q.2 hn.2.1 hxs (fun _ => rfl)
      have hl3 := hl.2.2.1
      simp only [List.length_nil] at hl3
      have e5 := kRd.len hx3
      rw [e4] at e5
      refine x_add hx2.1 (by omega) (fun g3 m1 m2 m3 m4 => ?_)
      have e6 := kRd.len m4
      have e6 : (g3 4 4).toInt = (g2 4 4).toInt + (1 : Int) := e6
      refine ih (w, g3, L2) ⟨(show 0 ≤ w.toInt ∧ w.toInt ≤ 700 by omega), Or.inl ⟨acc ++ q.1 ++ [t0.toInt], q.2, f, hR, hx2.fr m1 m2 (by decide) (by decide) (by decide) (by decide) (by decide) (by decide) (by decide) (by decide), ?_, (kf1.tr hx1).tr (kF.k m2 m3), ?_, by omega, ?_⟩⟩ (show 701 - w.toInt < 701 - v2.toInt by omega) (show 0 < 701 - v2.toInt by omega)
      · have := kRd.tr q0 h3 (kRd.tr q4.1 (kRd.p k2) (kRd.tr (by rw [e4]; exact q4.1) hx3 m4))
        rw [List.nil_append, ← List.append_assoc] at this
        exact this
      · show (g3 4 4).toInt + (n : Int) ≤ 700 + (q.2 : Int)
        omega
      · show w.toInt ≤ (q.2 : Int)
        omega
  have stop : ∀ L1 : lT, R = .ok (acc, P) → Ex (some ((), (g, L1))) (fun (_ : Unit) g1 L1 => XP b n g0 R g1) := fun L1 hR => Ex.ret (by rw [hR]; exact ⟨h4, h2, h3⟩)
  refine Ex.ite (fun c7 => stop L ?_) (fun c7 => ?_)
  · have c7 := icc_le (m := 700) (n := v2.toInt) (by decide) rfl c7
    rw [sB_f (fun h => by have := isS_lt h; omega), sB_f (fun h => by have := isS_lt h; omega)] at h1
    exact h1
  have c7 := icc_nle (m := 700) (n := v2.toInt) (by decide) rfl c7
  have P32 : ∀ hs : (isS b n P 43 ∨ isS b n P 45), Ex (fX6_readSum_5_p32 fu rc k7 p1 v2 g L) (fun (_ : Unit) g1 L1 => XP b n g0 R g1) := by
    intro hs
    unfold fX6_readSum_5_p32 fX6_readSum_5_p48
    refine x_sgn h2 (fun s1 => ?_) (fun s1 => ?_)
    · rw [sB_t (c := 43) s1] at h1
      exact more (-7) _ (isS_lt s1) h1 c7 (fun _ _ => rfl)
    · have s2 : isS b n P 45 := hs.resolve_left s1
      rw [sB_f (c := 43) s1, sB_t (c := 45) s2] at h1
      exact more (-8) _ (isS_lt s2) h1 c7 (fun _ _ => rfl)
  refine x_sgn h2 (fun s1 => P32 (Or.inl s1)) (fun s1 => ?_)
  refine x_sgn h2 (fun s2 => P32 (Or.inr s2)) (fun s2 => stop L ?_)
  rw [sB_f (c := 43) s1, sB_f (c := 45) s2] at h1
  exact h1
theorem bX_sum {fu : Nat} (hfu : 1180591620717411303424 ≤ fu) {rc : Int32 → gT → lT → Option (Unit × zS)} {p1 : Int32} {g : gT} {L : lT} {p : Nat} (hb : bX p g) : Ex (fX6_readSum_5 fu rc p1 g L) (fun (_ : Unit) g1 L1 => XB p g g1) := by
  unfold fX6_readSum_5
  refine Ex.cb (bX_product hfu hb) (fun _ g1 L1 hx => ?_)
  unfold fX6_readSum_5_l7
  refine Ex.loop (α := Int32 × gT × lT) (fun v => XB p g v.2.1) (fun v => 0) (by omega) (by omega) hx (fun k7 v hv ih => ?_)
  obtain ⟨v2, g2, L2⟩ := v
  have h2 : XB p g g2 := hv
  have hk := h2.2.2.1
  show Ex (fX6_readSum_5_s7 fu rc p1 k7 v2 g2 L2) _
  unfold fX6_readSum_5_s7 fX6_readSum_5_p75
  exact Ex.ite (fun _ => Ex.ret h2) (fun _ => x_sgnB hk (x_sgnB hk (Ex.ret h2)))
theorem cX_sum {fu : Nat} (hfu : 1180591620717411303424 ≤ fu) {rc : Int32 → gT → lT → Option (Unit × zS)} {b : Nat → Int32} {n d P f : Nat} (hrc : Rc b n d rc) {p1 : Int32} {g : gT} {L : lT} (hp : p1.toInt = (d : Int)) (hc : cX b n P g) (hr : rm n P g) (hf : 16 * (n + 1 - P) + 4 ≤ f) : Ex (fX6_readSum_5 fu rc p1 g L) (fun (_ : Unit) g1 L1 => XP b n g (xs b n f 2 d [] P) g1) := by
  obtain ⟨f, rfl⟩ : ∃ f', f = f' + 1 := ⟨f - 1, by omega⟩
  rw [xe_2]
  have q4 := hc.1 4 4 0 700 rfl
  have hr' : (g 4 4).toInt + (n : Int) ≤ 700 + (P : Int) := hr
  unfold fX6_readSum_5
  refine Ex.cb (cX_product hfu hrc hp hc hr (f := f) (by omega)) (fun _ g2 L2 hx => ?_)
  refine L_readSum hfu hrc q4.1 hp ?_
  cases hxs : xs b n f 1 d [] P with
  | error p =>
    rw [hxs] at hx
    exact Or.inr ⟨p, rfl, hx⟩
  | ok q =>
    rw [hxs] at hx
    obtain ⟨hx1, hx2, hx3⟩ := hx
    have hl := xs_len f 1 d [] P q.1 q.2 hc.2.2.1 hxs (fun _ => rfl)
    have hl3 := hl.2.2.1
    simp only [List.length_nil] at hl3
    have e5 := kRd.len hx3
    refine Or.inl ⟨q.1, q.2, f, rfl, hx2, hx3, hx1, ?_, by omega⟩
    show (g2 4 4).toInt + (n : Int) ≤ 700 + (q.2 : Int)
    omega
theorem bX_test {fu : Nat} (hfu : 1180591620717411303424 ≤ fu) {rc : Int32 → gT → lT → Option (Unit × zS)} {p1 : Int32} {g : gT} {L : lT} {p : Nat} (hb : bX p g) : Ex (fX6_readTest_5 fu rc p1 g L) (fun (_ : Unit) g1 L1 => XB p g g1) := by
  unfold fX6_readTest_5 fX6_readTest_5_p68
  refine Ex.cb (bX_sum hfu hb) (fun _ g1 L1 hx => ?_)
  exact x_sgnB hx.2.2.1 (x_sgnB hx.2.2.1 (Ex.ret hx))
set_option maxHeartbeats 4000000 in
theorem cX_test {fu : Nat} (hfu : 1180591620717411303424 ≤ fu) {rc : Int32 → gT → lT → Option (Unit × zS)} {b : Nat → Int32} {n d P f : Nat} (hrc : Rc b n d rc) {p1 : Int32} {g : gT} {L : lT} (hp : p1.toInt = (d : Int)) (hc : cX b n P g) (hr : rm n P g) (hf : 16 * (n + 1 - P) + 5 ≤ f) : Ex (fX6_readTest_5 fu rc p1 g L) (fun (_ : Unit) g1 L1 => XP b n g (xs b n f 3 d [] P) g1) := by
  obtain ⟨f, rfl⟩ : ∃ f', f = f' + 1 := ⟨f - 1, by omega⟩
  rw [xe_3]
  have q4 := hc.1 4 4 0 700 rfl
  have hr' : (g 4 4).toInt + (n : Int) ≤ 700 + (P : Int) := hr
  unfold fX6_readTest_5 fX6_readTest_5_p68
  refine Ex.cb (cX_sum hfu hrc hp hc hr (f := f) (by omega)) (fun _ g2 L2 hx => ?_)
  cases hxs : xs b n f 2 d [] P with
  | error p =>
    rw [hxs] at hx
    exact x_sgnB hx.2.2.1 (x_sgnB hx.2.2.1 (Ex.ret hx))
  | ok q =>
    rw [hxs] at hx
    obtain ⟨hx1, hx2, hx3⟩ := hx
    have hl := xs_len f 2 d [] P q.1 q.2 hc.2.2.1 hxs (fun _ => rfl)
    have hl3 := hl.2.2.1
    simp only [List.length_nil] at hl3
    have e5 := kRd.len hx3
    have q42 := hx2.1 4 4 0 700 rfl
    have hn := nx_le (b := b) hl.2.1
    rw [eb_ok]
    have more : ∀ (t0 : Int32) (K : Unit → gT → lT → Option (Unit × zS)), q.2 < n → (∀ g' L', K () g' L' = cb (fX6_readSum_5 fu rc p1 g' L') (fun x g'' L'' => cb (fX8_add_4 fu t0 g'' L'') (fun y g3 L3 => some ((), (g3, L3))))) → Ex (cb (fX6_advance_5 fu g2 L2) K) (fun (_ : Unit) g1 L1 => XP b n g (eb (xs b n f 2 d [] (nx b n q.2)) (fun c2 R => .ok (q.1 ++ c2 ++ [t0.toInt], R))) g1) := by
      intro t0 K hlt hK
      have hnl := hn.2.2 hlt
      refine x_adv hfu hx2 (fun g3 L3 k1 k2 => ?_)
      rw [hK]
      have e4 : g3 4 4 = g2 4 4 := by rw [k2.2 4 (by decide) (by decide)]
      have hr1 : rm n (nx b n q.2) g3 := by unfold rm; rw [e4]; omega
      have kf1 := hx1.tr (kF.p k2 (by decide))
      refine Ex.cb (cX_sum hfu hrc hp k1 hr1 (f := f) (by omega)) (fun _ g4 L4 hy => ?_)
      cases hys : xs b n f 2 d [] (nx b n q.2) with
      | error p =>
        rw [hys] at hy
        exact x_addX ⟨kf1.tr hy.1, hy.2⟩ (fun g5 m => Ex.ret m)
      | ok r =>
        rw [hys] at hy
        obtain ⟨hy1, hy2, hy3⟩ := hy
        have hl := xs_len f 2 d [] (nx b n q.2) r.1 r.2 hn.2.1 hys (fun _ => rfl)
        have hl3' := hl.2.2.1
        simp only [List.length_nil] at hl3'
        have e6 := kRd.len hy3
        rw [e4] at e6
        refine x_add hy2.1 (by omega) (fun g5 m1 m2 m3 m4 => Ex.ret ⟨(kf1.tr hy1).tr (kF.k m2 m3), hy2.fr m1 m2 (by decide) (by decide) (by decide) (by decide) (by decide) (by decide) (by decide) (by decide), ?_⟩)
        have := kRd.tr q4.1 hx3 (kRd.tr q42.1 (kRd.p k2) (kRd.tr (by rw [e4]; exact q42.1) hy3 m4))
        rw [List.nil_append, ← List.append_assoc] at this
        exact this
    refine x_sgn hx2 (fun s1 => ?_) (fun s1 => ?_)
    · rw [sB_t (c := 60) s1]
      exact more (-11) _ (isS_lt s1) (fun _ _ => rfl)
    rw [sB_f (c := 60) s1]
    refine x_sgn hx2 (fun s2 => ?_) (fun s2 => ?_)
    · rw [sB_t (c := 61) s2]
      exact more (-12) _ (isS_lt s2) (fun _ _ => rfl)
    rw [sB_f (c := 61) s2]
    exact Ex.ret ⟨hx1, hx2, hx3⟩
/-- so many nots are written -/
theorem x_nots {fu : Nat} (hfu : 1180591620717411303424 ≤ fu) {rc : Int32 → gT → lT → Option (Unit × zS)} {v2 : Int32} {g : gT} {L : lT} (h0 : 0 ≤ v2.toInt) (h6 : v2.toInt ≤ 6) (hI : zI XT g) : Ex (fX6_readNot_5_l54 fu rc v2 0 g L) (fun (_ : Unit) g1 L1 => zI XT g1 ∧ FX [] [4, 22] g g1 ∧ g1 4 3 = g 4 3 ∧ ((g 4 4).toInt + v2.toInt ≤ 700 → kRd g g1 (List.replicate v2.toInt.toNat (-15)))) := by
  have q4 := hI 4 4 0 700 rfl
  unfold fX6_readNot_5_l54
  refine Ex.loop (α := Int32 × gT × lT) (fun v => (0 ≤ v.1.toInt ∧ v.1.toInt ≤ v2.toInt) ∧ zI XT v.2.1 ∧ FX [] [4, 22] g v.2.1 ∧ v.2.1 4 3 = g 4 3 ∧ ((g 4 4).toInt + v2.toInt ≤ 700 → kRd g v.2.1 (List.replicate v.1.toInt.toNat (-15)))) (fun v => v2.toInt - v.1.toInt) (by omega) (by show v2.toInt - (0 : Int32).toInt < (fu : Int); have : (0 : Int32).toInt = 0 := rfl; omega) ⟨(show 0 ≤ (0 : Int32).toInt ∧ (0 : Int32).toInt ≤ v2.toInt from ⟨by decide, h0⟩), hI, FX.refl, rfl, fun _ => kRd.nil rfl rfl⟩ (fun k54 v hv ih => ?_)
  obtain ⟨v3, g', L'⟩ := v
  obtain ⟨hv, h1, h2, h3, h4⟩ := hv
  have hv : 0 ≤ v3.toInt ∧ v3.toInt ≤ v2.toInt := hv
  have h1 : zI XT g' := h1
  have h2 : FX [] [4, 22] g g' := h2
  have h3 : g' 4 3 = g 4 3 := h3
  have h4 : (g 4 4).toInt + v2.toInt ≤ 700 → kRd g g' (List.replicate v3.toInt.toNat (-15)) := h4
  show Ex (fX6_readNot_5_s54 fu rc v2 k54 v3 g' L') _
  unfold fX6_readNot_5_s54
  refine Ex.ite (fun c => Ex.ret ⟨h1, h2, h3, fun hr => ?_⟩) (fun c => ?_)
  · have c := icc_le (m := v2.toInt) (n := v3.toInt) rfl rfl c
    rw [show v2.toInt = v3.toInt by omega]
    exact h4 hr
  have c := icc_nle (m := v2.toInt) (n := v3.toInt) rfl rfl c
  generalize hw : v3 + 1 = w
  have ew : w.toInt = v3.toInt + 1 := by rw [← hw]; exact ic_addc rfl (by decide) (by omega) (by omega)
  have q4' := h1 4 4 0 700 rfl
  by_cases hr : (g 4 4).toInt + v2.toInt ≤ 700
  · have h4 := h4 hr
    have e := kRd.len h4
    rw [List.length_replicate] at e
    refine x_add h1 (by omega) (fun g1 m1 m2 m3 m4 => ?_)
    refine ih (w, g1, L') ⟨(show 0 ≤ w.toInt ∧ w.toInt ≤ v2.toInt by omega), m1, h2.tr m2, m3.trans h3, fun _ => ?_⟩ (show v2.toInt - w.toInt < v2.toInt - v3.toInt by omega) (show 0 < v2.toInt - v3.toInt by omega)
    have := kRd.tr q4.1 h4 m4
    show kRd g g1 (List.replicate w.toInt.toNat (-15))
    rw [show w.toInt.toNat = v3.toInt.toNat + 1 by omega, List.replicate_succ']
    exact this
  · refine x_addB h1 (fun g1 m1 m2 m3 => ?_)
    exact ih (w, g1, L') ⟨(show 0 ≤ w.toInt ∧ w.toInt ≤ v2.toInt by omega), m1, h2.tr m2, m3.trans h3, fun h => absurd h hr⟩ (show v2.toInt - w.toInt < v2.toInt - v3.toInt by omega) (show 0 < v2.toInt - v3.toInt by omega)
theorem x_notB {fu : Nat} (hfu : 1180591620717411303424 ≤ fu) {rc : Int32 → gT → lT → Option (Unit × zS)} {v1 v2 : Int32} {g0 g : gT} {L : lT} {p : Nat} (h0 : 0 ≤ v2.toInt) (h6 : v2.toInt ≤ 6) (hb : XB p g0 g) : Ex (fX6_readNot_5_p47 fu rc v1 v2 g L) (fun (_ : Unit) g1 L1 => XB p g0 g1) := by
  unfold fX6_readNot_5_p47
  refine Ex.cb (bX_test hfu hb.2) (fun _ g1 L1 hx => ?_)
  refine (x_nots hfu h0 h6 hx.2.1).mono (fun _ g2 L2 m => ?_)
  exact ⟨(hb.1.tr hx.1).tr (kF.k m.2.1 m.2.2.1), hx.2.fr m.1 m.2.1 (by decide) (by decide) (by decide)⟩
theorem bX_not {fu : Nat} (hfu : 1180591620717411303424 ≤ fu) {rc : Int32 → gT → lT → Option (Unit × zS)} {p1 : Int32} {g : gT} {L : lT} {p : Nat} (hb : bX p g) : Ex (fX6_readNot_5 fu rc p1 g L) (fun (_ : Unit) g1 L1 => XB p g g1) := by
  have hk := hb.2.1
  unfold fX6_readNot_5 fX6_readNot_5_l2
  refine Ex.loop (α := Int32 × gT × lT) (fun v => (0 ≤ v.1.toInt ∧ v.1.toInt ≤ 6) ∧ v.2.1 = g) (fun v => 0) (by omega) (by omega) ⟨(show 0 ≤ (0 : Int32).toInt ∧ (0 : Int32).toInt ≤ 6 from by decide), rfl⟩ (fun k2 v hv ih => ?_)
  obtain ⟨v2, g', L'⟩ := v
  obtain ⟨hv, he⟩ := hv
  have hv : 0 ≤ v2.toInt ∧ v2.toInt ≤ 6 := hv
  have he : g' = g := he
  subst he
  show Ex (fX6_readNot_5_s2 fu rc p1 k2 v2 g' L') _
  unfold fX6_readNot_5_s2
  have P27 : Ex (fX6_readNot_5_p27 fu rc p1 v2 g' L') (fun (_ : Unit) g1 L1 => XB p g' g1) := by
    unfold fX6_readNot_5_p27
    exact e_notW hfu hb.1 (fun h => absurd h (xW_B hk _)) (fun _ => x_notB hfu hv.1 hv.2 ⟨kF.refl, hb⟩)
  exact Ex.ite (fun _ => P27) (fun _ => e_notW hfu hb.1 (fun h => absurd h (xW_B hk _)) (fun _ => P27))
set_option maxHeartbeats 4000000 in
theorem cX_not {fu : Nat} (hfu : 1180591620717411303424 ≤ fu) {rc : Int32 → gT → lT → Option (Unit × zS)} {b : Nat → Int32} {n d P f : Nat} (hrc : Rc b n d rc) {p1 : Int32} {g : gT} {L : lT} (hp : p1.toInt = (d : Int)) (hc : cX b n P g) (hr : rm n P g) (hf : 16 * (n + 1 - P) + 6 ≤ f) : Ex (fX6_readNot_5 fu rc p1 g L) (fun (_ : Unit) g1 L1 => XP b n g (xs b n f 4 d [] P) g1) := by
  have q4 := hc.1 4 4 0 700 rfl
  have hr' : (g 4 4).toInt + (n : Int) ≤ 700 + (P : Int) := hr
  generalize hR : xs b n f 4 d [] P = R
  unfold fX6_readNot_5 fX6_readNot_5_l2
  refine Ex.loop (α := Int32 × gT × lT) (fun v => (0 ≤ v.1.toInt ∧ v.1.toInt ≤ 6) ∧ ∃ (Q f' : Nat), xs b n f' 4 d (List.replicate v.1.toInt.toNat (-15)) Q = R ∧ cX b n Q v.2.1 ∧ FX [3, 4, 5, 6] [] g v.2.1 ∧ v.1.toInt + (P : Int) ≤ (Q : Int) ∧ 16 * (n + 1 - Q) + 6 ≤ f') (fun v => 7 - v.1.toInt) (by omega) (by show 7 - (0 : Int32).toInt < (fu : Int); have : (0 : Int32).toInt = 0 := rfl; omega) ⟨(show 0 ≤ (0 : Int32).toInt ∧ (0 : Int32).toInt ≤ 6 from by decide), P, f, hR, hc, FX.refl, (show (0 : Int) + (P : Int) ≤ (P : Int) by omega), hf⟩ (fun k2 v hv ih => ?_)
  obtain ⟨v2, g', L'⟩ := v
  obtain ⟨hv, Q, f', h1, h2, h3, h4, h5⟩ := hv
  have hv : 0 ≤ v2.toInt ∧ v2.toInt ≤ 6 := hv
  have h1 : xs b n f' 4 d (List.replicate v2.toInt.toNat (-15)) Q = R := h1
  have h2 : cX b n Q g' := h2
  have h3 : FX [3, 4, 5, 6] [] g g' := h3
  have h4 : v2.toInt + (P : Int) ≤ (Q : Int) := h4
  obtain ⟨f', rfl⟩ : ∃ f'', f' = f'' + 1 := ⟨f' - 1, by omega⟩
  rw [xe_4, List.length_replicate] at h1
  have a1 := h2.1
  have hn := nx_le (b := b) h2.2.2.1
  have kf3 : kF g g' := kF.p h3 (by decide)
  have e4 : g' 4 4 = g 4 4 := by rw [h3.2 4 (by decide) (by decide)]
  show Ex (fX6_readNot_5_s2 fu rc p1 k2 v2 g' L') _
  unfold fX6_readNot_5_s2
  -- no not more
  have P47 : ¬ isW b n Q 16 → Ex (fX6_readNot_5_p47 fu rc p1 v2 g' L') (fun (_ : Unit) g1 L1 => XP b n g R g1) := by
    intro hw
    rw [wB_f hw] at h1
    have h1 : eb (xs b n f' 3 d [] Q) (fun c Q => .ok (c ++ List.replicate v2.toInt.toNat (-15), Q)) = R := h1
    unfold fX6_readNot_5_p47
    refine Ex.cb (cX_test hfu hrc hp h2 (by unfold rm; rw [e4]; omega) (f := f') (by omega)) (fun _ g2 L2 hx => ?_)
    cases hxs : xs b n f' 3 d [] Q with
    | error p =>
      rw [hxs] at hx h1
      rw [← h1]
      refine (x_nots hfu hv.1 hv.2 hx.2.1).mono (fun _ g3 L3 m => ?_)
      exact ⟨(kf3.tr hx.1).tr (kF.k m.2.1 m.2.2.1), hx.2.fr m.1 m.2.1 (by decide) (by decide) (by decide)⟩
    | ok q =>
      rw [hxs] at hx h1
      rw [← h1]
      obtain ⟨hx1, hx2, hx3⟩ := hx
      have hl := xs_len f' 3 d [] Q q.1 q.2 h2.2.2.1 hxs (fun _ => rfl)
      have hl3 := hl.2.2.1
      simp only [List.length_nil] at hl3
      have e5 := kRd.len hx3
      rw [e4] at e5
      refine (x_nots hfu hv.1 hv.2 hx2.1).mono (fun _ g3 L3 m => ?_)
      refine ⟨(kf3.tr hx1).tr (kF.k m.2.1 m.2.2.1), hx2.fr m.1 m.2.1 (by decide) (by decide) (by decide) (by decide) (by decide) (by decide) (by decide) (by decide), ?_⟩
      have := kRd.tr q4.1 (kRd.p h3) (kRd.tr (by rw [e4]; exact q4.1) hx3 (m.2.2.2 (by omega)))
      rw [List.nil_append] at this
      exact this
  have P27 : ∀ hs : (¬ isW b n Q 16 ∨ 6 ≤ v2.toInt), Ex (fX6_readNot_5_p27 fu rc p1 v2 g' L') (fun (_ : Unit) g1 L1 => XP b n g R g1) := by
    intro hs
    unfold fX6_readNot_5_p27
    refine e_notW hfu a1 (fun s1 => ?_) (fun s1 => P47 (fun h => s1 ((xW_isW h2 _).mpr h)))
    have s1 := (xW_isW h2 _).mp s1
    have h6 : 6 ≤ v2.toInt := hs.resolve_left (fun h => h s1)
    refine Ex.ite (fun c => ?_) (fun _ => ?_)
    · have c := icc_lt (m := v2.toInt) (n := 6) rfl (by decide) c
      omega
    rw [wB_t s1, if_pos rfl, if_neg (by omega)] at h1
    rw [← h1]
    refine x_ref (by decide) h2 (fun g2 k1 k2 => ?_)
    exact x_notB hfu hv.1 hv.2 ⟨kf3.tr (kF.p k2 (by decide)), k1⟩
  refine Ex.ite (fun c => P27 (Or.inr (icc_le (m := 6) (n := v2.toInt) (by decide) rfl c))) (fun c => ?_)
  have c := icc_nle (m := 6) (n := v2.toInt) (by decide) rfl c
  refine e_notW hfu a1 (fun s1 => ?_) (fun s1 => P27 (Or.inl (fun h => s1 ((xW_isW h2 _).mpr h))))
  have s1 := (xW_isW h2 _).mp s1
  have hnl := hn.2.2 (isW_lt s1)
  rw [wB_t s1, if_pos rfl, if_pos (by omega)] at h1
  generalize hw : v2 + 1 = w
  have ew : w.toInt = v2.toInt + 1 := by rw [← hw]; exact ic_addc rfl (by decide) (by omega) (by omega)
  refine x_adv hfu h2 (fun g2 L2 k1 k2 => ?_)
  refine ih (w, g2, L2) ⟨(show 0 ≤ w.toInt ∧ w.toInt ≤ 6 by omega), nx b n Q, f', ?_, k1, h3.tr k2, (show w.toInt + (P : Int) ≤ ((nx b n Q : Nat) : Int) by omega), by omega⟩ (show 7 - w.toInt < 7 - v2.toInt by omega) (show 0 < 7 - v2.toInt by omega)
  show xs b n f' 4 d (List.replicate w.toInt.toNat (-15)) (nx b n Q) = R
  rw [show w.toInt.toNat = v2.toInt.toNat + 1 by omega, List.replicate_succ]
  exact h1
set_option maxHeartbeats 4000000 in
theorem L_readAnd {fu : Nat} (hfu : 1180591620717411303424 ≤ fu) {rc : Int32 → gT → lT → Option (Unit × zS)} {b : Nat → Int32} {n d : Nat} (hrc : Rc b n d rc) {p1 : Int32} {g0 g : gT} {L : lT} {R : xR} (q0 : 0 ≤ (g0 4 4).toInt) (hp : p1.toInt = (d : Int)) (hI : (∃ (acc : List Int) (P f : Nat), R = xs b n f 10 d acc P ∧ cX b n P g ∧ kRd g0 g acc ∧ kF g0 g ∧ rm n P g ∧ 16 * (n + 1 - P) + 2 ≤ f) ∨ (∃ p, R = .error p ∧ XB p g0 g)) : Ex (fX6_readAnd_5_l7 fu rc p1 0 g L) (fun (_ : Unit) g1 L1 => XP b n g0 R g1) := by
  unfold fX6_readAnd_5_l7
  refine Ex.loop (α := Int32 × gT × lT) (fun v => (0 ≤ v.1.toInt ∧ v.1.toInt ≤ 700) ∧ ((∃ (acc : List Int) (P f : Nat), R = xs b n f 10 d acc P ∧ cX b n P v.2.1 ∧ kRd g0 v.2.1 acc ∧ kF g0 v.2.1 ∧ rm n P v.2.1 ∧ 16 * (n + 1 - P) + 2 ≤ f ∧ v.1.toInt ≤ (P : Int)) ∨ (∃ p, R = .error p ∧ XB p g0 v.2.1))) (fun v => 701 - v.1.toInt) (by omega) (by show 701 - (0 : Int32).toInt < (fu : Int); have : (0 : Int32).toInt = 0 := rfl; omega) ⟨(show 0 ≤ (0 : Int32).toInt ∧ (0 : Int32).toInt ≤ 700 from by decide), ?_⟩ (fun k7 v hv ih => ?_)
  · rcases hI with ⟨acc, P, f, h1, h2, h3, h4, h5, h6⟩ | hI
    · exact Or.inl ⟨acc, P, f, h1, h2, h3, h4, h5, h6, show (0 : Int) ≤ (P : Int) by omega⟩
    · exact Or.inr hI
  clear hI
  obtain ⟨v2, g, L⟩ := v
  obtain ⟨hv, hI⟩ := hv
  have hv : 0 ≤ v2.toInt ∧ v2.toInt ≤ 700 := hv
  show Ex (fX6_readAnd_5_s7 fu rc p1 k7 v2 g L) _
  unfold fX6_readAnd_5_s7 fX6_readAnd_5_p50
  rcases hI with ⟨acc, P, f, h1, h2, h3, h4, h5, h6, h7⟩ | ⟨p, h1, h2⟩
  rotate_left
  · have h2 : XB p g0 g := h2
    have hk := h2.2.2.1
    rw [h1]
    exact Ex.ite (fun _ => Ex.ret h2) (fun _ => e_andW hfu h2.2.1 (fun h => absurd h (xW_B hk _)) (fun _ => Ex.ret h2))
  have h2 : cX b n P g := h2
  have h3 : kRd g0 g acc := h3
  have h4 : kF g0 g := h4
  have h5 : rm n P g := h5
  have h7 : v2.toInt ≤ (P : Int) := h7
  obtain ⟨f, rfl⟩ : ∃ f', f = f' + 1 := ⟨f - 1, by omega⟩
  rw [xe_10] at h1
  obtain ⟨a1, a2, a3, a4, a5, a6, a7, a8, a9, a10, a11⟩ := id h2
  have q4 := a1 4 4 0 700 rfl
  have hn := nx_le (b := b) a3
  have h5' : (g 4 4).toInt + (n : Int) ≤ 700 + (P : Int) := h5
  have more : ∀ (t0 : Int32) (K : Unit → gT → lT → Option (Unit × zS)), P < n → R = eb (xs b n f 4 d [] (nx b n P)) (fun c Q => xs b n f 10 d (acc ++ c ++ [t0.toInt]) Q) → v2.toInt < 700 → (∀ g' L', K () g' L' = cb (fX6_readNot_5 fu rc p1 g' L') (fun x g'' L'' => cb (fX8_add_4 fu t0 g'' L'') (fun y g3 L3 => k7 ((v2 + 1), g3, L3)))) → Ex (cb (fX6_advance_5 fu g L) K) (fun (_ : Unit) g1 L1 => XP b n g0 R g1) := by
    intro t0 K hlt hR hv7 hK
    have hnl := hn.2.2 hlt
    generalize hw : v2 + 1 = w at hK
    have ew : w.toInt = v2.toInt + 1 := by rw [← hw]; exact ic_addc rfl (by decide) (by omega) (by omega)
    refine x_adv hfu h2 (fun g1 L1 k1 k2 => ?_)
    rw [hK]
    have e4 : g1 4 4 = g 4 4 := by rw [k2.2 4 (by decide) (by decide)]
    have hr1 : rm n (nx b n P) g1 := by unfold rm; rw [e4]; omega
    have kf1 := h4.tr (kF.p k2 (by decide))
    refine Ex.cb (cX_not hfu hrc hp k1 hr1 (f := f) (by omega)) (fun _ g2 L2 hx => ?_)
    cases hxs : xs b n f 4 d [] (nx b n P) with
    | error p =>
      rw [hxs] at hx hR
      refine x_addX ⟨kf1.tr hx.1, hx.2⟩ (fun g3 m => ?_)
      exact ih (w, g3, L2) ⟨(show 0 ≤ w.toInt ∧ w.toInt ≤ 700 by omega), Or.inr ⟨p, hR, m⟩⟩ (show 701 - w.toInt < 701 - v2.toInt by omega) (show 0 < 701 - v2.toInt by omega)
    | ok q =>
      rw [hxs] at hx hR
      obtain ⟨hx1, hx2, hx3⟩ := hx
      have hl := xs_len f 4 d [] (nx b n P) q.1 q.2 hn.2.1 hxs (fun _ => rfl)
      have hl3 := hl.2.2.1
      simp only [List.length_nil] at hl3
      have e5 := kRd.len hx3
      rw [e4] at e5
      refine x_add hx2.1 (by omega) (fun g3 m1 m2 m3 m4 => ?_)
      have e6 := kRd.len m4
      have e6 : (g3 4 4).toInt = (g2 4 4).toInt + (1 : Int) := e6
      refine ih (w, g3, L2) ⟨(show 0 ≤ w.toInt ∧ w.toInt ≤ 700 by omega), Or.inl ⟨acc ++ q.1 ++ [t0.toInt], q.2, f, hR, hx2.fr m1 m2 (by decide) (by decide) (by decide) (by decide) (by decide) (by decide) (by decide) (by decide), ?_, (kf1.tr hx1).tr (kF.k m2 m3), ?_, by omega, ?_⟩⟩ (show 701 - w.toInt < 701 - v2.toInt by omega) (show 0 < 701 - v2.toInt by omega)
      · have := kRd.tr q0 h3 (kRd.tr q4.1 (kRd.p k2) (kRd.tr (by rw [e4]; exact q4.1) hx3 m4))
        rw [List.nil_append, ← List.append_assoc] at this
        exact this
      · show (g3 4 4).toInt + (n : Int) ≤ 700 + (q.2 : Int)
        omega
      · show w.toInt ≤ (q.2 : Int)
        omega
  have stop : ∀ L1 : lT, R = .ok (acc, P) → Ex (some ((), (g, L1))) (fun (_ : Unit) g1 L1 => XP b n g0 R g1) := fun L1 hR => Ex.ret (by rw [hR]; exact ⟨h4, h2, h3⟩)
  refine Ex.ite (fun c7 => stop L ?_) (fun c7 => ?_)
  · have c7 := icc_le (m := 700) (n := v2.toInt) (by decide) rfl c7
    rw [wB_f (fun h => by have := isW_lt h; omega)] at h1
    exact h1
  have c7 := icc_nle (m := 700) (n := v2.toInt) (by decide) rfl c7
  refine e_andW hfu a1 (fun s1 => ?_) (fun s1 => stop L ?_)
  · have s1 := (xW_isW h2 _).mp s1
    rw [wB_t s1] at h1
    exact more (-13) _ (isW_lt s1) h1 c7 (fun _ _ => rfl)
  · rw [wB_f (fun h => s1 ((xW_isW h2 _).mpr h))] at h1
    exact h1
theorem bX_and {fu : Nat} (hfu : 1180591620717411303424 ≤ fu) {rc : Int32 → gT → lT → Option (Unit × zS)} {p1 : Int32} {g : gT} {L : lT} {p : Nat} (hb : bX p g) : Ex (fX6_readAnd_5 fu rc p1 g L) (fun (_ : Unit) g1 L1 => XB p g g1) := by
  unfold fX6_readAnd_5
  refine Ex.cb (bX_not hfu hb) (fun _ g1 L1 hx => ?_)
  unfold fX6_readAnd_5_l7
  refine Ex.loop (α := Int32 × gT × lT) (fun v => XB p g v.2.1) (fun v => 0) (by omega) (by omega) hx (fun k7 v hv ih => ?_)
  obtain ⟨v2, g2, L2⟩ := v
  have h2 : XB p g g2 := hv
  have hk := h2.2.2.1
  show Ex (fX6_readAnd_5_s7 fu rc p1 k7 v2 g2 L2) _
  unfold fX6_readAnd_5_s7 fX6_readAnd_5_p50
  exact Ex.ite (fun _ => Ex.ret h2) (fun _ => e_andW hfu h2.2.1 (fun h => absurd h (xW_B hk _)) (fun _ => Ex.ret h2))
theorem cX_and {fu : Nat} (hfu : 1180591620717411303424 ≤ fu) {rc : Int32 → gT → lT → Option (Unit × zS)} {b : Nat → Int32} {n d P f : Nat} (hrc : Rc b n d rc) {p1 : Int32} {g : gT} {L : lT} (hp : p1.toInt = (d : Int)) (hc : cX b n P g) (hr : rm n P g) (hf : 16 * (n + 1 - P) + 7 ≤ f) : Ex (fX6_readAnd_5 fu rc p1 g L) (fun (_ : Unit) g1 L1 => XP b n g (xs b n f 5 d [] P) g1) := by
  obtain ⟨f, rfl⟩ : ∃ f', f = f' + 1 := ⟨f - 1, by omega⟩
  rw [xe_5]
  have q4 := hc.1 4 4 0 700 rfl
  have hr' : (g 4 4).toInt + (n : Int) ≤ 700 + (P : Int) := hr
  unfold fX6_readAnd_5
  refine Ex.cb (cX_not hfu hrc hp hc hr (f := f) (by omega)) (fun _ g2 L2 hx => ?_)
  refine L_readAnd hfu hrc q4.1 hp ?_
  cases hxs : xs b n f 4 d [] P with
  | error p =>
    rw [hxs] at hx
    exact Or.inr ⟨p, rfl, hx⟩
  | ok q =>
    rw [hxs] at hx
    obtain ⟨hx1, hx2, hx3⟩ := hx
    have hl := xs_len f 4 d [] P q.1 q.2 hc.2.2.1 hxs (fun _ => rfl)
    have hl3 := hl.2.2.1
    simp only [List.length_nil] at hl3
    have e5 := kRd.len hx3
    refine Or.inl ⟨q.1, q.2, f, rfl, hx2, hx3, hx1, ?_, by omega⟩
    show (g2 4 4).toInt + (n : Int) ≤ 700 + (q.2 : Int)
    omega
set_option maxHeartbeats 4000000 in
theorem L_readExpr {fu : Nat} (hfu : 1180591620717411303424 ≤ fu) {rc : Int32 → gT → lT → Option (Unit × zS)} {b : Nat → Int32} {n d : Nat} (hrc : Rc b n d rc) {p1 : Int32} {g0 g : gT} {L : lT} {R : xR} (q0 : 0 ≤ (g0 4 4).toInt) (hp : p1.toInt = (d : Int)) (hI : (∃ (acc : List Int) (P f : Nat), R = xs b n f 11 d acc P ∧ cX b n P g ∧ kRd g0 g acc ∧ kF g0 g ∧ rm n P g ∧ 16 * (n + 1 - P) + 2 ≤ f) ∨ (∃ p, R = .error p ∧ XB p g0 g)) : Ex (fX6_readExpr_5_l42 fu rc p1 0 g L) (fun (_ : Unit) g1 L1 => XP b n g0 R g1) := by
  unfold fX6_readExpr_5_l42
  refine Ex.loop (α := Int32 × gT × lT) (fun v => (0 ≤ v.1.toInt ∧ v.1.toInt ≤ 700) ∧ ((∃ (acc : List Int) (P f : Nat), R = xs b n f 11 d acc P ∧ cX b n P v.2.1 ∧ kRd g0 v.2.1 acc ∧ kF g0 v.2.1 ∧ rm n P v.2.1 ∧ 16 * (n + 1 - P) + 2 ≤ f ∧ v.1.toInt ≤ (P : Int)) ∨ (∃ p, R = .error p ∧ XB p g0 v.2.1))) (fun v => 701 - v.1.toInt) (by omega) (by show 701 - (0 : Int32).toInt < (fu : Int); have : (0 : Int32).toInt = 0 := rfl; omega) ⟨(show 0 ≤ (0 : Int32).toInt ∧ (0 : Int32).toInt ≤ 700 from by decide), ?_⟩ (fun k7 v hv ih => ?_)
  · rcases hI with ⟨acc, P, f, h1, h2, h3, h4, h5, h6⟩ | hI
    · exact Or.inl ⟨acc, P, f, h1, h2, h3, h4, h5, h6, show (0 : Int) ≤ (P : Int) by omega⟩
    · exact Or.inr hI
  clear hI
  obtain ⟨v2, g, L⟩ := v
  obtain ⟨hv, hI⟩ := hv
  have hv : 0 ≤ v2.toInt ∧ v2.toInt ≤ 700 := hv
  show Ex (fX6_readExpr_5_s42 fu rc p1 k7 v2 g L) _
  unfold fX6_readExpr_5_s42 fX6_readExpr_5_p85
  rcases hI with ⟨acc, P, f, h1, h2, h3, h4, h5, h6, h7⟩ | ⟨p, h1, h2⟩
  rotate_left
  · have h2 : XB p g0 g := h2
    have hk := h2.2.2.1
    rw [h1]
    exact Ex.ite (fun _ => Ex.ret h2) (fun _ => e_orW hfu h2.2.1 (fun h => absurd h (xW_B hk _)) (fun _ => Ex.ret h2))
  have h2 : cX b n P g := h2
  have h3 : kRd g0 g acc := h3
  have h4 : kF g0 g := h4
  have h5 : rm n P g := h5
  have h7 : v2.toInt ≤ (P : Int) := h7
  obtain ⟨f, rfl⟩ : ∃ f', f = f' + 1 := ⟨f - 1, by omega⟩
  rw [xe_11] at h1
  obtain ⟨a1, a2, a3, a4, a5, a6, a7, a8, a9, a10, a11⟩ := id h2
  have q4 := a1 4 4 0 700 rfl
  have hn := nx_le (b := b) a3
  have h5' : (g 4 4).toInt + (n : Int) ≤ 700 + (P : Int) := h5
  have more : ∀ (t0 : Int32) (K : Unit → gT → lT → Option (Unit × zS)), P < n → R = eb (xs b n f 5 d [] (nx b n P)) (fun c Q => xs b n f 11 d (acc ++ c ++ [t0.toInt]) Q) → v2.toInt < 700 → (∀ g' L', K () g' L' = cb (fX6_readAnd_5 fu rc p1 g' L') (fun x g'' L'' => cb (fX8_add_4 fu t0 g'' L'') (fun y g3 L3 => k7 ((v2 + 1), g3, L3)))) → Ex (cb (fX6_advance_5 fu g L) K) (fun (_ : Unit) g1 L1 => XP b n g0 R g1) := by
    intro t0 K hlt hR hv7 hK
    have hnl := hn.2.2 hlt
    generalize hw : v2 + 1 = w at hK
    have ew : w.toInt = v2.toInt + 1 := by rw [← hw]; exact ic_addc rfl (by decide) (by omega) (by omega)
    refine x_adv hfu h2 (fun g1 L1 k1 k2 => ?_)
    rw [hK]
    have e4 : g1 4 4 = g 4 4 := by rw [k2.2 4 (by decide) (by decide)]
    have hr1 : rm n (nx b n P) g1 := by unfold rm; rw [e4]; omega
    have kf1 := h4.tr (kF.p k2 (by decide))
    refine Ex.cb (cX_and hfu hrc hp k1 hr1 (f := f) (by omega)) (fun _ g2 L2 hx => ?_)
    cases hxs : xs b n f 5 d [] (nx b n P) with
    | error p =>
      rw [hxs] at hx hR
      refine x_addX ⟨kf1.tr hx.1, hx.2⟩ (fun g3 m => ?_)
      exact ih (w, g3, L2) ⟨(show 0 ≤ w.toInt ∧ w.toInt ≤ 700 by omega), Or.inr ⟨p, hR, m⟩⟩ (show 701 - w.toInt < 701 - v2.toInt by omega) (show 0 < 701 - v2.toInt by omega)
    | ok q =>
      rw [hxs] at hx hR
      obtain ⟨hx1, hx2, hx3⟩ := hx
      have hl := xs_len f 5 d [] (nx b n P) q.1 q.2 hn.2.1 hxs (fun _ => rfl)
      have hl3 := hl.2.2.1
      simp only [List.length_nil] at hl3
      have e5 := kRd.len hx3
      rw [e4] at e5
      refine x_add hx2.1 (by omega) (fun g3 m1 m2 m3 m4 => ?_)
      have e6 := kRd.len m4
      have e6 : (g3 4 4).toInt = (g2 4 4).toInt + (1 : Int) := e6
      refine ih (w, g3, L2) ⟨(show 0 ≤ w.toInt ∧ w.toInt ≤ 700 by omega), Or.inl ⟨acc ++ q.1 ++ [t0.toInt], q.2, f, hR, hx2.fr m1 m2 (by decide) (by decide) (by decide) (by decide) (by decide) (by decide) (by decide) (by decide), ?_, (kf1.tr hx1).tr (kF.k m2 m3), ?_, by omega, ?_⟩⟩ (show 701 - w.toInt < 701 - v2.toInt by omega) (show 0 < 701 - v2.toInt by omega)
      · have := kRd.tr q0 h3 (kRd.tr q4.1 (kRd.p k2) (kRd.tr (by rw [e4]; exact q4.1) hx3 m4))
        rw [List.nil_append, ← List.append_assoc] at this
        exact this
      · show (g3 4 4).toInt + (n : Int) ≤ 700 + (q.2 : Int)
        omega
      · show w.toInt ≤ (q.2 : Int)
        omega
  have stop : ∀ L1 : lT, R = .ok (acc, P) → Ex (some ((), (g, L1))) (fun (_ : Unit) g1 L1 => XP b n g0 R g1) := fun L1 hR => Ex.ret (by rw [hR]; exact ⟨h4, h2, h3⟩)
  refine Ex.ite (fun c7 => stop L ?_) (fun c7 => ?_)
  · have c7 := icc_le (m := 700) (n := v2.toInt) (by decide) rfl c7
    rw [wB_f (fun h => by have := isW_lt h; omega)] at h1
    exact h1
  have c7 := icc_nle (m := 700) (n := v2.toInt) (by decide) rfl c7
  refine e_orW hfu a1 (fun s1 => ?_) (fun s1 => stop L ?_)
  · have s1 := (xW_isW h2 _).mp s1
    rw [wB_t s1] at h1
    exact more (-14) _ (isW_lt s1) h1 c7 (fun _ _ => rfl)
  · rw [wB_f (fun h => s1 ((xW_isW h2 _).mpr h))] at h1
    exact h1
theorem bX_expr {fu : Nat} (hfu : 1180591620717411303424 ≤ fu) {rc : Int32 → gT → lT → Option (Unit × zS)} {p1 : Int32} {g : gT} {L : lT} {p : Nat} (hb : bX p g) : Ex (fX6_readExpr_5_p35 fu rc p1 g L) (fun (_ : Unit) g1 L1 => XB p g g1) := by
  unfold fX6_readExpr_5_p35
  refine Ex.cb (bX_and hfu hb) (fun _ g1 L1 hx => ?_)
  unfold fX6_readExpr_5_l42
  refine Ex.loop (α := Int32 × gT × lT) (fun v => XB p g v.2.1) (fun v => 0) (by omega) (by omega) hx (fun k7 v hv ih => ?_)
  obtain ⟨v2, g2, L2⟩ := v
  have h2 : XB p g g2 := hv
  have hk := h2.2.2.1
  show Ex (fX6_readExpr_5_s42 fu rc p1 k7 v2 g2 L2) _
  unfold fX6_readExpr_5_s42 fX6_readExpr_5_p85
  exact Ex.ite (fun _ => Ex.ret h2) (fun _ => e_orW hfu h2.2.1 (fun h => absurd h (xW_B hk _)) (fun _ => Ex.ret h2))
set_option maxHeartbeats 4000000 in
theorem cX_exprB {fu : Nat} (hfu : 1180591620717411303424 ≤ fu) {rc : Int32 → gT → lT → Option (Unit × zS)} {b : Nat → Int32} {n d P f : Nat} (hrc : Rc b n d rc) {p1 : Int32} {g : gT} {L : lT} (hp : p1.toInt = (d : Int)) (hc : cX b n P g) (hr : rm n P g) (hf : 16 * (n + 1 - P) + 8 ≤ f) : Ex (fX6_readExpr_5B fu rc p1 g L) (fun (_ : Unit) g1 L1 => XP b n g (xs b n f 6 d [] P) g1) := by
  obtain ⟨f, rfl⟩ : ∃ f', f = f' + 1 := ⟨f - 1, by omega⟩
  rw [xe_6]
  obtain ⟨a1, a2, a3, a4, a5, a6, a7, a8, a9, a10, a11⟩ := id hc
  have q4 := a1 4 4 0 700 rfl
  have hr' : (g 4 4).toInt + (n : Int) ≤ 700 + (P : Int) := hr
  unfold fX6_readExpr_5B
  have bad : ∀ (w : Int32), w.toInt ≠ 0 → Ex (cb (fX6_refuse_5 fu w g L) (fun x g1 L1 => fX6_readExpr_5_p35 fu rc p1 g1 L1)) (fun (_ : Unit) g1 L1 => XP b n g (.error P) g1) := by
    intro w hw
    refine x_ref hw hc (fun g1 k1 k2 => ?_)
    exact (bX_expr hfu k1).mono (fun _ g2 L2 hx => XB.tr (kF.p k2 (by decide)) hx)
  refine Ex.ite (fun c => ?_) (fun c => ?_)
  · have c := icc_le (m := p1.toInt) (n := 5) rfl (by decide) c
    rw [if_pos (show d ≤ 5 by omega)]
    unfold fX6_readExpr_5_p35
    refine Ex.cb (cX_and hfu hrc hp hc hr (f := f) (by omega)) (fun _ g2 L2 hx => ?_)
    refine L_readExpr hfu hrc q4.1 hp ?_
    cases hxs : xs b n f 5 d [] P with
    | error p =>
      rw [hxs] at hx
      exact Or.inr ⟨p, rfl, hx⟩
    | ok q =>
      rw [hxs] at hx
      obtain ⟨hx1, hx2, hx3⟩ := hx
      have hl := xs_len f 5 d [] P q.1 q.2 hc.2.2.1 hxs (fun _ => rfl)
      have hl3 := hl.2.2.1
      simp only [List.length_nil] at hl3
      have e5 := kRd.len hx3
      refine Or.inl ⟨q.1, q.2, f, rfl, hx2, hx3, hx1, ?_, by omega⟩
      show (g2 4 4).toInt + (n : Int) ≤ 700 + (q.2 : Int)
      omega
  have c := icc_nle (m := p1.toInt) (n := 5) rfl (by decide) c
  have hd : ¬ d ≤ 5 := by omega
  rw [if_neg hd]
  unfold fX6_readExpr_5_p30
  refine Ex.ite (fun _ => bad 2 (by decide)) (fun c1 => ?_)
  refine Ex.ite (fun _ => bad 2 (by decide)) (fun c2 => ?_)
  have c1 := icc_neq (m := (g 5 4).toInt) (n := 1) rfl (by decide) c1
  have c2 := icc_neq (m := (g 5 4).toInt) (n := 2) rfl (by decide) c2
  refine x_sgn hc (fun _ => bad 2 (by decide)) (fun hs => ?_)
  -- neither number nor word nor opening: the part is at fault
  have e : ∀ f, 16 * (n + 1 - P) + 7 ≤ f → xs b n f 5 d [] P = .error P := by
    intro f hf
    obtain ⟨f, rfl⟩ : ∃ f', f = f' + 1 := ⟨f - 1, by omega⟩
    obtain ⟨f, rfl⟩ : ∃ f', f = f' + 1 := ⟨f - 1, by omega⟩
    obtain ⟨f, rfl⟩ : ∃ f', f = f' + 1 := ⟨f - 1, by omega⟩
    obtain ⟨f, rfl⟩ : ∃ f', f = f' + 1 := ⟨f - 1, by omega⟩
    obtain ⟨f, rfl⟩ : ∃ f', f = f' + 1 := ⟨f - 1, by omega⟩
    obtain ⟨f, rfl⟩ : ∃ f', f = f' + 1 := ⟨f - 1, by omega⟩
    have hw : wB b n P 16 = false := wB_f (fun h => by have := h.1; omega)
    rw [xe_5, xe_4, hw, if_neg (by decide), xe_3, xe_2, xe_1, xe_0, if_neg (by omega), if_neg (by omega), sB_f (c := 40) hs, if_neg (by decide)]
    rfl
  unfold fX6_readExpr_5_p35
  refine Ex.cb (cX_and hfu hrc hp hc hr (f := 16 * (n + 1 - P) + 7) (Nat.le_refl _)) (fun _ g2 L2 hx => ?_)
  rw [e _ (Nat.le_refl _)] at hx
  exact L_readExpr hfu hrc q4.1 hp (Or.inr ⟨P, rfl, hx⟩)
/-- an expression, so many deep -/
theorem cX_expr {fu : Nat} (hfu : 1180591620717411303424 ≤ fu) {b : Nat → Int32} {n : Nat} : ∀ (m d : Nat) (p1 : Int32) (g : gT) (L : lT) (P f : Nat), 7 ≤ m + d → d ≤ 6 → p1.toInt = (d : Int) → cX b n P g → rm n P g → 16 * (n + 1 - P) + 8 ≤ f → Ex (fX6_readExpr_5 fu m p1 g L) (fun (_ : Unit) g1 L1 => XP b n g (xs b n f 6 d [] P) g1) := by
  intro m
  induction m with
  | zero => intro d p1 g L P f h1 h2; omega
  | succ m ih =>
    intro d p1 g L P f h1 h2 hp hc hr hf
    refine cX_exprB hfu (fun hd p2 g2 L2 P2 f2 hp2 hc2 hr2 hf2 => ?_) hp hc hr hf
    exact ih (d + 1) p2 g2 L2 P2 f2 (by omega) (by omega) hp2 hc2 hr2 hf2
