/-! ===== rules, reckoned ===== -/
def vj (x : Int) (a b : Int32) : Int32 := if x = -13 then (if a = 0 then 0 else if b = 0 then 0 else 1) else if x = -12 then (if a = b then 1 else 0) else if x = -11 then (if b ≤ a then 0 else 1) else if x = -10 then (if b = 0 then 0 else a / b) else if x = -9 then a * b else if x = -8 then a - b else if x = -7 then a + b else if a = 0 then (if b = 0 then 0 else 1) else 1
/-- what a code leaves at the bottom, from a pile s of height h -/
def ev (t : Nat → Int32) : List Int → Nat → (Nat → Int32) → Int32
  | [], _, s => s 0
  | x :: c, h, s => if -6 ≤ x then ev t c (h + 1) (upd s h (if x < 0 then t (-1 - x).toNat else Int32.ofInt x)) else if x = -15 then ev t c h (upd s (h - 1) (if s (h - 1) = 0 then 1 else 0)) else ev t c (h - 1) (upd s (h - 2) (vj x (s (h - 2)) (s (h - 1))))
theorem ev_p {t s : Nat → Int32} {x : Int} {c : List Int} {h : Nat} (a : -6 ≤ x) : ev t (x :: c) h s = ev t c (h + 1) (upd s h (if x < 0 then t (-1 - x).toNat else Int32.ofInt x)) := by
  show (if -6 ≤ x then _ else _) = _
  rw [if_pos a]
theorem ev_n {t s : Nat → Int32} {x : Int} {c : List Int} {h : Nat} (a : x = -15) : ev t (x :: c) h s = ev t c h (upd s (h - 1) (if s (h - 1) = 0 then 1 else 0)) := by
  show (if -6 ≤ x then _ else if x = -15 then _ else _) = _
  rw [if_neg (by omega), if_pos a]
theorem ev_o {t s : Nat → Int32} {x : Int} {c : List Int} {h : Nat} (a : x ≤ -7) (b : x ≠ -15) : ev t (x :: c) h s = ev t c (h - 1) (upd s (h - 2) (vj x (s (h - 2)) (s (h - 1)))) := by
  show (if -6 ≤ x then _ else if x = -15 then _ else _) = _
  rw [if_neg (by omega), if_neg b]
theorem ev_c {t : Nat → Int32} : ∀ {c : List Int} {h : Nat} {s s' : Nat → Int32}, rp c h 1 → (∀ i, i < h → s i = s' i) → ev t c h s = ev t c h s' := by
  intro c
  induction c with
  | nil =>
    intro h s s' hr he
    have hr : h = 1 := hr
    exact he 0 (by omega)
  | cons x c ih =>
    intro h s s' hr he
    have up : ∀ (k : Nat) (v : Int32) (n : Nat), n ≤ h + 1 → (n = h + 1 → k = h) → ∀ i, i < n → upd s k v i = upd s' k v i := by
      intro k v n hn hk i hi
      by_cases e : i = k
      · rw [e, upd_at, upd_at]
      · rw [upd_ne e, upd_ne e]
        refine he i ?_
        by_cases c : n = h + 1
        · have := hk c; omega
        · omega
    rcases hr with ⟨-, a, -, r⟩ | ⟨a, b, r⟩ | ⟨a, b, r⟩
    · rw [ev_p a, ev_p a]
      exact ih r (up h _ _ (by omega) (fun _ => rfl))
    · rw [ev_n a, ev_n a, he (h - 1) (by omega)]
      exact ih r (up _ _ _ (by omega) (fun e => by omega))
    · rw [ev_o a.2 (by omega), ev_o a.2 (by omega), he (h - 1) (by omega), he (h - 2) (by omega)]
      exact ih r (up _ _ _ (by omega) (fun e => by omega))
def At (f : Nat → Int32) : Nat → List Int → Prop
  | _, [] => True
  | q, x :: l => (f q).toInt = x ∧ At f (q + 1) l
theorem At_i {f : Nat → Int32} : ∀ {l : List Int} {q : Nat}, (∀ i (hi : i < l.length), (f (q + i)).toInt = l[i]) → At f q l := by
  intro l
  induction l with
  | nil => intro q _; trivial
  | cons x l ih =>
    intro q h
    refine ⟨h 0 (by simp), ih (fun i hi => ?_)⟩
    have e := h (i + 1) (by simp; omega)
    rw [show q + 1 + i = q + (i + 1) by omega, e]; rfl
theorem At_d {f : Nat → Int32} {l : List Int} {q : Nat} (h : ∀ i, i < l.length → (f (q + i)).toInt = l.getD i 0) : At f q l := At_i (fun i hi => by rw [h i hi, List.getD_eq_getElem?_getD, List.getElem?_eq_getElem hi]; rfl)
theorem jo_x {fu : Nat} {p1 p2 p3 : Int32} {g : gT} {L : lT} : Pc (fX8_joined fu p1 p2 p3 g L) (fun x g1 _ => g1 = g ∧ x = vj p1.toInt p2 p3) := by
  unfold fX8_joined fX8_joined_p102 fX8_joined_p103 fX8_joined_p89 fX8_joined_p78 fX8_joined_p67 fX8_joined_p112 fX8_joined_p117
  repeat' first
    | exact pc_cnz (pc_some ⟨rfl, by simp [vj, *]⟩)
    | exact pc_some ⟨rfl, by simp [vj, *]⟩
    | refine pc_ite (fun _ => ?_) (fun _ => ?_)
theorem io_i {x : Int32} : Int32.ofInt x.toInt = x := Int32.ofInt_toInt x
theorem va_x {fu : Nat} {p1 : Int32} {g : gT} {L : lT} {cs : List Int} {o r : Nat} (h0 : p1.toInt = (r : Int)) (h1 : (r : Int) < (g 3 3).toInt) (ho : (g 20 r).toInt = (o : Int)) (hn : (g 20 (r + 1)).toInt = (o : Int) + (cs.length : Int)) (hA : At (g 19) o cs) (hr : rp cs 0 1) : Pc (fX8_value_3_48 fu p1 g L) (fun x _ _ => x = ev (g 48) cs 0 (g 21)) := by
  have eN : p1.toNatClampNeg = r := by rw [nc, h0]; omega
  unfold fX8_value_3_48
  refine pc_ite (fun c => ?_) (fun _ => pc_ite (fun _ => pc_ck (fun _ b5 => pc_lti (fun x3 e3 => ?_))) (fun c => ?_))
  · have c := icc_lt h0 (n := 0) rfl c
    omega
  rotate_left
  · have c := icc_nlt h0 (n := (g 3 3).toInt) rfl c
    omega
  rw [eN] at e3
  have e1 : (p1 + 1).toNatClampNeg = r + 1 := by rw [nc, ic_addc h0 (n := 1) rfl (by omega) (by omega)]; omega
  unfold fX8_value_3_48_l24
  refine pc_loop (fun v => ∃ (c : List Int) (h q : Nat), (v.2.2.1 20 = g 20 ∧ v.2.2.1 19 = g 19 ∧ v.2.2.1 48 = g 48) ∧ At (g 19) q c ∧ v.2.1.toInt = (q : Int) ∧ (q : Int) + (c.length : Int) = (o : Int) + (cs.length : Int) ∧ v.1.toInt = (h : Int) ∧ rp c h 1 ∧ ev (g 48) c h (v.2.2.1 21) = ev (g 48) cs 0 (g 21)) (fun k hk v hv => ?_) ⟨cs, 0, o, ⟨rfl, rfl, rfl⟩, hA, by rw [e3]; exact ho, rfl, rfl, hr, rfl⟩
  obtain ⟨v3, v4, g', L'⟩ := v
  obtain ⟨c, h, q, ⟨y1, y2, y3⟩, hA, hq, hl, hh, hr, he⟩ := hv
  replace y1 : g' 20 = g 20 := y1
  replace y2 : g' 19 = g 19 := y2
  replace y3 : g' 48 = g 48 := y3
  replace hq : v4.toInt = (q : Int) := hq
  replace hh : v3.toInt = (h : Int) := hh
  replace he : ev (g 48) c h (g' 21) = ev (g 48) cs 0 (g 21) := he
  show Pc (fX8_value_3_48_s24 fu p1 k v3 v4 g' L') _
  unfold fX8_value_3_48_s24
  rw [e1, y1]
  have i15 : (-15 : Int32).toInt = -15 := rfl
  have i6 : (-6 : Int32).toInt = -6 := rfl
  have rg := ic_rg v3
  refine pc_ck (fun _ _ => pc_ite (fun cc => ?_) (fun cc => ?_))
  · have cc := icc_le hn hq cc
    cases c with
    | cons x c => rw [List.length_cons] at hl; omega
    | nil =>
      have hr : h = 1 := hr
      refine pc_ite (fun _ => pc_ck (fun _ _ => pc_some he)) (fun c1 => ?_)
      have c1 := icc_neq hh (n := 1) rfl c1
      omega
  have cc := icc_nle hn hq cc
  cases c with
  | nil => rw [List.length_nil] at hl; omega
  | cons x c =>
    rw [List.length_cons] at hl
    obtain ⟨hx, hA⟩ := hA
    refine pc_ck (fun b0 b1 => pc_lti (fun x6 e6 => ?_))
    have eq : v4.toNatClampNeg = q := by rw [nc, hq]; omega
    rw [eq, y2] at e6
    have hx : x6.toInt = x := by rw [e6]; exact hx
    have e4 : (v4 + 1).toInt = ((q + 1 : Nat) : Int) := by rw [ic_addc hq (n := 1) rfl (by omega) (by omega)]; omega
    have nx : ∀ (g1 : gT) (L1 : lT) (w : Int32) (h' j : Nat) (z : Int32), w.toInt = (h' : Int) → g1 = upd2 g' 21 j z → rp c h' 1 → ev (g 48) c h' (upd (g' 21) j z) = ev (g 48) cs 0 (g 21) → Pc (k (w, (v4 + 1), g1, L1)) (fun x _ _ => x = ev (g 48) cs 0 (g 21)) := by
      intro g1 L1 w h' j z hw eg hr' hv
      refine hk _ ⟨c, h', q + 1, ⟨?_, ?_, ?_⟩, hA, e4, ?_, hw, hr', ?_⟩
      · show g1 20 = g 20
        rw [eg, ← y1]; exact funext fun _ => upd2_nk (by decide)
      · show g1 19 = g 19
        rw [eg, ← y2]; exact funext fun _ => upd2_nk (by decide)
      · show g1 48 = g 48
        rw [eg, ← y3]; exact funext fun _ => upd2_nk (by decide)
      · omega
      · show ev (g 48) c h' (g1 21) = _
        rw [eg, upd2_k]; exact hv
    unfold fX8_value_3_48_p126 fX8_value_3_48_p82 fX8_value_3_48_p167
    refine pc_ite (fun c1 => ?_) (fun c1 => ?_)
    · have c1 := icc_lt hx i6 c1
      refine pc_ite (fun c2 => ?_) (fun c2 => ?_)
      · have c2 := icc_eq hx i15 c2
        rcases hr with ⟨-, a, -, r⟩ | ⟨-, b, r⟩ | ⟨a, b, r⟩
        · omega
        rotate_left
        · omega
        have ej : (v3 - 1).toNatClampNeg = h - 1 := by rw [nc, ic_subc hh (n := 1) rfl (by omega) (by omega)]; omega
        rw [ev_n c2] at he
        rw [ej]
        refine pc_ite (fun _ => pc_ck (fun _ _ => pc_ite (fun c3 => ?_) (fun c3 => ?_))) (fun c3 => ?_)
        · rw [if_pos c3] at he
          exact pc_ck (fun _ _ => pc_st (fun g1 eg => nx g1 L' v3 h (h - 1) 1 hh (by rw [eg]) r he))
        · rw [if_neg c3] at he
          exact pc_ck (fun _ _ => pc_st (fun g1 eg => nx g1 L' v3 h (h - 1) 0 hh (by rw [eg]) r he))
        · have c3 := icc_nle (m := 1) rfl hh c3
          omega
      · have c2 := icc_neq hx i15 c2
        rcases hr with ⟨-, a, -, r⟩ | ⟨a, b, r⟩ | ⟨a, b, r⟩
        · omega
        · omega
        have ew : (v3 + (-1)).toInt = ((h - 1 : Nat) : Int) := by rw [ic_addc hh (n := -1) rfl (by omega) (by omega)]; omega
        have ej : (v3 + (-1)).toNatClampNeg = h - 1 := by rw [nc, ew]; omega
        have ek : (v3 + (-1) - 1).toNatClampNeg = h - 2 := by rw [nc, ic_subc ew (n := 1) rfl (by omega) (by omega)]; omega
        rw [ev_o a.2 c2] at he
        rw [ej, ek]
        refine pc_ite (fun _ => pc_ck (fun _ _ => pc_ck (fun _ _ => pc_cb jo_x (fun x10 g11 L12 e => ?_)))) (fun c3 => ?_)
        · obtain ⟨e1, e2⟩ := e
          rw [hx] at e2
          rw [← e2] at he
          exact pc_ck (fun _ _ => pc_st (fun g1 eg => nx g1 L12 _ (h - 1) (h - 2) x10 ew (by rw [eg, e1]) r he))
        · have c3 := icc_nle (m := 2) rfl hh c3
          omega
    · have c1 := icc_nlt hx i6 c1
      rcases hr with ⟨-, a, d, r⟩ | ⟨a, b, r⟩ | ⟨a, b, r⟩
      rotate_left
      · omega
      · omega
      have ew : (v3 + 1).toInt = ((h + 1 : Nat) : Int) := by rw [ic_addc hh (n := 1) rfl (by omega) (by omega)]; omega
      have ej : v3.toNatClampNeg = h := by rw [nc, hh]; omega
      rw [ev_p a] at he
      rw [ej]
      refine pc_ite (fun _ => pc_ite (fun c3 => pc_ck (fun _ _ => ?_)) (fun c3 => ?_)) (fun c3 => ?_)
      · have c3 := icc_lt hx (n := 0) rfl c3
        have et : ((-1 : Int32) - x6).toNatClampNeg = (-1 - x).toNat := by rw [nc, ic_subc (m := -1) rfl hx (by omega) (by omega)]
        rw [if_pos c3] at he
        exact pc_ck (fun _ _ => pc_st (fun g1 eg => nx g1 L' _ (h + 1) h (g' 48 ((-1 : Int32) - x6).toNatClampNeg) ew (by rw [eg]) r (by rw [y3, et]; exact he)))
      · have c3 := icc_nlt hx (n := 0) rfl c3
        rw [if_neg (by omega), ← hx, io_i] at he
        exact pc_ck (fun _ _ => pc_st (fun g1 eg => nx g1 L' _ (h + 1) h x6 ew (by rw [eg]) r he))
      · have c3 := icc_nlt hh (n := 64) rfl c3
        omega
theorem wo_m {fu : Nat} {p1 p2 p3 : Int32} {g : gT} {L : lT} {x : Int} (h1 : -14 ≤ x) (h2 : x ≤ -7) (hp : en1 x = [p1.toInt]) : Pc (fX12_works fu p1 p2 p3 g L) (fun r g1 _ => g1 = g ∧ r = vj x p2 p3) := by
  unfold fX12_works fX12_works_p56 fX12_works_p57 fX12_works_p66 fX12_works_p71 fX12_works_p82 fX12_works_p93 fX12_works_p117
  rcases (by omega : x = -14 ∨ x = -13 ∨ x = -12 ∨ x = -11 ∨ x = -10 ∨ x = -9 ∨ x = -8 ∨ x = -7) with rfl | rfl | rfl | rfl | rfl | rfl | rfl | rfl
  · have hp : p1.toInt = 5 := by injection hp with hp; exact hp.symm
    rw [if_neg (by omega), if_pos hp]
    repeat' first
      | exact pc_cnz (pc_some ⟨rfl, by simp [vj, *]⟩)
      | exact pc_some ⟨rfl, by simp [vj, *]⟩
      | refine pc_ite (fun _ => ?_) (fun _ => ?_)
  · have hp : p1.toInt = 4 := by injection hp with hp; exact hp.symm
    rw [if_pos hp]
    repeat' first
      | exact pc_cnz (pc_some ⟨rfl, by simp [vj, *]⟩)
      | exact pc_some ⟨rfl, by simp [vj, *]⟩
      | refine pc_ite (fun _ => ?_) (fun _ => ?_)
  · have hp : p1.toInt = 7 := by injection hp with hp; exact hp.symm
    rw [if_neg (by omega), if_neg (by omega), if_neg (by omega), if_pos hp]
    repeat' first
      | exact pc_cnz (pc_some ⟨rfl, by simp [vj, *]⟩)
      | exact pc_some ⟨rfl, by simp [vj, *]⟩
      | refine pc_ite (fun _ => ?_) (fun _ => ?_)
  · have hp : p1.toInt = 6 := by injection hp with hp; exact hp.symm
    rw [if_neg (by omega), if_neg (by omega), if_pos hp]
    repeat' first
      | exact pc_cnz (pc_some ⟨rfl, by simp [vj, *]⟩)
      | exact pc_some ⟨rfl, by simp [vj, *]⟩
      | refine pc_ite (fun _ => ?_) (fun _ => ?_)
  · have hp : p1.toInt = 11 := by injection hp with hp; exact hp.symm
    rw [if_neg (by omega), if_neg (by omega), if_neg (by omega), if_neg (by omega), if_neg (by omega), if_neg (by omega), if_neg (by omega)]
    repeat' first
      | exact pc_cnz (pc_some ⟨rfl, by simp [vj, *]⟩)
      | exact pc_some ⟨rfl, by simp [vj, *]⟩
      | refine pc_ite (fun _ => ?_) (fun _ => ?_)
  · have hp : p1.toInt = 10 := by injection hp with hp; exact hp.symm
    rw [if_neg (by omega), if_neg (by omega), if_neg (by omega), if_neg (by omega), if_neg (by omega), if_neg (by omega), if_pos hp]
    repeat' first
      | exact pc_cnz (pc_some ⟨rfl, by simp [vj, *]⟩)
      | exact pc_some ⟨rfl, by simp [vj, *]⟩
      | refine pc_ite (fun _ => ?_) (fun _ => ?_)
  · have hp : p1.toInt = 9 := by injection hp with hp; exact hp.symm
    rw [if_neg (by omega), if_neg (by omega), if_neg (by omega), if_neg (by omega), if_neg (by omega), if_pos hp]
    repeat' first
      | exact pc_cnz (pc_some ⟨rfl, by simp [vj, *]⟩)
      | exact pc_some ⟨rfl, by simp [vj, *]⟩
      | refine pc_ite (fun _ => ?_) (fun _ => ?_)
  · have hp : p1.toInt = 8 := by injection hp with hp; exact hp.symm
    rw [if_neg (by omega), if_neg (by omega), if_neg (by omega), if_neg (by omega), if_pos hp]
    repeat' first
      | exact pc_cnz (pc_some ⟨rfl, by simp [vj, *]⟩)
      | exact pc_some ⟨rfl, by simp [vj, *]⟩
      | refine pc_ite (fun _ => ?_) (fun _ => ?_)
theorem re_m {fu : Nat} {p1 : Int32} {g : gT} {L : lT} {cs : List Int} {q : Nat} (h0 : p1.toInt = (q : Int)) (hA : At (g 11) q (enc cs ++ [0])) (hr : rp cs 0 1) : Pc (fX12_reckons fu p1 g L) (fun x _ _ => x = ev (g 29) cs 0 (g 30)) := by
  unfold fX12_reckons fX12_reckons_l4
  refine pc_loop (fun v => ∃ (c : List Int) (h q : Nat), (v.2.2.1 11 = g 11 ∧ v.2.2.1 29 = g 29) ∧ At (g 11) q (enc c ++ [0]) ∧ v.2.1.toInt = (q : Int) ∧ v.1.toInt = (h : Int) ∧ rp c h 1 ∧ ev (g 29) c h (v.2.2.1 30) = ev (g 29) cs 0 (g 30)) (fun k hk v hv => ?_) ⟨cs, 0, q, ⟨rfl, rfl⟩, hA, h0, rfl, hr, rfl⟩
  obtain ⟨v2, v3, g', L'⟩ := v
  obtain ⟨c, h, q, ⟨y1, y2⟩, hA, hq, hh, hr, he⟩ := hv
  replace y1 : g' 11 = g 11 := y1
  replace y2 : g' 29 = g 29 := y2
  replace hq : v3.toInt = (q : Int) := hq
  replace hh : v2.toInt = (h : Int) := hh
  replace he : ev (g 29) c h (g' 30) = ev (g 29) cs 0 (g 30) := he
  have rg := ic_rg v2
  show Pc (fX12_reckons_s4 fu k v2 v3 g' L') _
  unfold fX12_reckons_s4
  have eq : v3.toNatClampNeg = q := by rw [nc, hq]; omega
  refine pc_ck (fun b0 b1 => ?_)
  rw [eq, y1]
  have e4 : (v3 + 1).toInt = ((q + 1 : Nat) : Int) := by rw [ic_addc hq (n := 1) rfl (by omega) (by omega)]; omega
  have nx : ∀ (c' : List Int) (g1 : gT) (L1 : lT) (w u : Int32) (h' q' j : Nat) (z : Int32), At (g 11) q' (enc c' ++ [0]) → u.toInt = (q' : Int) → w.toInt = (h' : Int) → g1 = upd2 g' 30 j z → rp c' h' 1 → ev (g 29) c' h' (upd (g' 30) j z) = ev (g 29) cs 0 (g 30) → Pc (k (w, u, g1, L1)) (fun x _ _ => x = ev (g 29) cs 0 (g 30)) := by
    intro c' g1 L1 w u h' q' j z hA' hu hw eg hr' hv
    refine hk _ ⟨c', h', q', ⟨?_, ?_⟩, hA', hu, hw, hr', ?_⟩
    · show g1 11 = g 11
      rw [eg, ← y1]; exact funext fun _ => upd2_nk (by decide)
    · show g1 29 = g 29
      rw [eg, ← y2]; exact funext fun _ => upd2_nk (by decide)
    · show ev (g 29) c' h' (g1 30) = _
      rw [eg, upd2_k]; exact hv
  cases c with
  | nil =>
    have hz : (g 11 q).toInt = 0 := hA.1
    have hr : h = 1 := hr
    refine pc_ite (fun _ => pc_ck (fun _ _ => pc_some he)) (fun c1 => absurd (ic_eq.mpr hz) c1)
  | cons x c =>
    have ee : enc (x :: c) ++ [0] = en1 x ++ (enc c ++ [0]) := by
      show (en1 x ++ enc c) ++ [0] = _
      rw [List.append_assoc]
    rw [ee] at hA
    have i1 : (1 : Int32).toInt = 1 := rfl
    have i2 : (2 : Int32).toInt = 2 := rfl
    have i3 : (3 : Int32).toInt = 3 := rfl
    unfold fX12_reckons_p36 fX12_reckons_p67 fX12_reckons_p106 fX12_reckons_p140
    rcases hr with ⟨-, a, d, r⟩ | ⟨a, b, r⟩ | ⟨a, b, r⟩
    · have ew : (v2 + 1).toInt = ((h + 1 : Nat) : Int) := by rw [ic_addc hh (n := 1) rfl (by omega) (by omega)]; omega
      have ej : v2.toNatClampNeg = h := by rw [nc, hh]; omega
      have e41 : (v3 + 1).toNatClampNeg = q + 1 := by rw [nc, e4]; omega
      have e5 : (v3 + 1 + 1).toInt = ((q + 2 : Nat) : Int) := by rw [ic_addc e4 (n := 1) rfl (by omega) (by omega)]; omega
      rw [ev_p a] at he
      rw [ej, e41, y1]
      by_cases c3 : 0 ≤ x
      · have e1 : en1 x = [1, x] := by unfold en1; rw [if_pos c3]
        rw [e1] at hA
        obtain ⟨a1, a2, a3⟩ := hA
        rw [if_neg (by omega)] at he
        have az : ¬ g 11 q = 0 := fun e => by rw [e] at a1; exact absurd a1 (by decide)
        rw [if_neg az]
        refine pc_ck (fun _ _ => pc_lti (fun x2 e2 => ?_))
        have a1 : x2 = 1 := by rw [e2]; exact ic_eq.mpr a1
        rw [if_pos a1, if_pos a1]
        refine pc_ck (fun _ _ => pc_ck (fun _ _ => pc_st (fun g1 eg => nx c g1 L' _ _ (h + 1) (q + 2) h (g 11 (q + 1)) a3 e5 ew (by rw [eg]) r ?_)))
        rw [← a2, io_i] at he; exact he
      · have e1 : en1 x = [2, -1 - x] := by unfold en1; rw [if_neg c3, if_pos a]
        rw [e1] at hA
        obtain ⟨a1, a2, a3⟩ := hA
        rw [if_pos (by omega), ← a2, ← y2] at he
        have az : ¬ g 11 q = 0 := fun e => by rw [e] at a1; exact absurd a1 (by decide)
        rw [if_neg az]
        refine pc_ck (fun _ _ => pc_lti (fun x2 e2 => ?_))
        have a1 : x2 = 2 := by rw [e2]; exact ic_eq.mpr a1
        have a1' : ¬ x2 = 1 := by rw [a1]; decide
        rw [if_neg a1', if_pos a1, if_neg a1']
        refine pc_ck (fun _ _ => pc_ck (fun _ _ => pc_ck (fun _ _ => pc_st (fun g1 eg => nx c g1 L' _ _ (h + 1) (q + 2) h (g' 29 (g 11 (q + 1)).toNatClampNeg) a3 e5 ew (by rw [eg]) r ?_))))
        rw [nc]
        exact (by rw [y2] at he ⊢; exact he)
    · have e1 : en1 x = [3] := by rw [a]; rfl
      rw [e1] at hA
      obtain ⟨a1, a2⟩ := hA
      have ej : (v2 - 1).toNatClampNeg = h - 1 := by rw [nc, ic_subc hh (n := 1) rfl (by omega) (by omega)]; omega
      rw [ev_n a] at he
      rw [ej]
      have az : ¬ g 11 q = 0 := fun e => by rw [e] at a1; exact absurd a1 (by decide)
      rw [if_neg az]
      refine pc_ck (fun _ _ => pc_lti (fun x2 e2 => ?_))
      have a1 : x2 = 3 := by rw [e2]; exact ic_eq.mpr a1
      rw [if_neg (by rw [a1]; decide), if_neg (by rw [a1]; decide), if_pos a1]
      refine pc_ck (fun _ _ => pc_ite (fun c3 => ?_) (fun c3 => ?_))
      · rw [if_pos c3] at he
        exact pc_ck (fun _ _ => pc_st (fun g1 eg => nx c g1 L' v2 _ h (q + 1) (h - 1) 1 a2 e4 hh (by rw [eg]) r he))
      · rw [if_neg c3] at he
        exact pc_ck (fun _ _ => pc_st (fun g1 eg => nx c g1 L' v2 _ h (q + 1) (h - 1) 0 a2 e4 hh (by rw [eg]) r he))
    · have hop : ∃ w : Int, en1 x = [w] ∧ 4 ≤ w ∧ w ≤ 11 := by
        rcases (by omega : x = -14 ∨ x = -13 ∨ x = -12 ∨ x = -11 ∨ x = -10 ∨ x = -9 ∨ x = -8 ∨ x = -7) with rfl | rfl | rfl | rfl | rfl | rfl | rfl | rfl <;> exact ⟨_, rfl, by decide, by decide⟩
      obtain ⟨w, e1, w1, w2⟩ := hop
      rw [e1] at hA
      obtain ⟨a1, a2⟩ := hA
      have ew : (v2 + (-1)).toInt = ((h - 1 : Nat) : Int) := by rw [ic_addc hh (n := -1) rfl (by omega) (by omega)]; omega
      have ej : (v2 + (-1)).toNatClampNeg = h - 1 := by rw [nc, ew]; omega
      have ek : (v2 + (-1) - 1).toNatClampNeg = h - 2 := by rw [nc, ic_subc ew (n := 1) rfl (by omega) (by omega)]; omega
      rw [ev_o a.2 (by omega)] at he
      rw [ej, ek]
      refine pc_ite (fun e => ?_) (fun _ => pc_ck (fun _ _ => pc_lti (fun x2 e2 => ?_)))
      · rw [e] at a1
        have a1 : (0 : Int) = w := a1
        omega
      have a1 : x2.toInt = w := by rw [e2]; exact a1
      refine pc_ite (fun e => ?_) (fun _ => pc_ite (fun e => ?_) (fun _ => pc_ite (fun e => ?_) (fun _ => ?_)))
      · rw [e] at a1; omega
      · rw [e] at a1; omega
      · rw [e] at a1; omega
      rw [← a1] at e1
      refine pc_ck (fun _ _ => pc_ck (fun _ _ => pc_cb (wo_m a.1 a.2 e1) (fun x10 g11 L12 e => ?_)))
      obtain ⟨u1, u2⟩ := e
      rw [← u2] at he
      exact pc_ck (fun _ _ => pc_st (fun g1 eg => nx c g1 L12 _ _ (h - 1) (q + 1) (h - 2) x10 a2 e4 ew (by rw [eg, u1]) r he))
