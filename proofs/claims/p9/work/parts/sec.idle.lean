/-! ===== idle answers alike ===== -/
def fa (f : Nat → Int32 → Int32) (a : Int32) : Nat → Int32
  | 0 => a
  | m + 1 => f m (fa f a m)
theorem fa_c {f f' : Nat → Int32 → Int32} {a : Int32} : ∀ {n : Nat}, (∀ i, i < n → ∀ a, f i a = f' i a) → fa f a n = fa f' a n := by
  intro n
  induction n with
  | zero => intro _; rfl
  | succ n ih =>
    intro h
    show f n (fa f a n) = f' n (fa f' a n)
    rw [ih (fun i hi => h i (by omega)), h n (by omega)]
def sI (d : gT) (bg en : Nat → Int32) (i k : Nat) (a : Int32) : Int32 := a + d 4 (wf0 d i k) * (if 0 < bg i - cmg d en i k then bg i - cmg d en i k else 0)
def fIdle (d : gT) (bg en : Nat → Int32) (i : Nat) (a : Int32) : Int32 := fa (sI d bg en i) a (d 8 i).toInt.toNat
section X
variable {cs : Nat → List Int} {n fu : Nat} {g d : gT} {L : lT}
theorem idle_x (h : DC cs n g d) : Pc (fX1_idleMinutes_8 fu g L) (fun x g1 _ => g1 = g ∧ x = fo (fIdle d (g 43) (g 44)) n) := by
  have hn := h.1
  unfold fX1_idleMinutes_8 fX1_idleMinutes_8_l4
  refine pc_loop (fun v => ∃ m : Nat, v.2.1.toInt = (m : Int) ∧ m ≤ n ∧ v.1 = fo (fIdle d (g 43) (g 44)) m ∧ v.2.2.1 = g) (fun k4 hk v hv => ?_) ⟨0, rfl, by omega, rfl, rfl⟩
  obtain ⟨v1, v2, g', L'⟩ := v
  obtain ⟨m, hm, mn, e1, eg⟩ := hv
  replace hm : v2.toInt = (m : Int) := hm
  replace e1 : v1 = fo (fIdle d (g 43) (g 44)) m := e1
  replace eg : g' = g := eg
  subst eg
  show Pc (fX1_idleMinutes_8_s4 fu k4 v1 v2 g' L') _
  unfold fX1_idleMinutes_8_s4
  have ei : v2.toNatClampNeg = m := by rw [nc, hm]; omega
  refine pc_ite (fun c => pc_some ⟨rfl, ?_⟩) (fun c => ?_)
  · have c := icc_le hn.1 hm c
    rw [e1, show m = n by omega]
  have c := icc_nle hn.1 hm c
  have m' : m < n := by omega
  have b8 := (h.2.2.2.2.1 m m').2
  have hW := h.2.2.2.1
  have f1 : g' (57 + m) 1 = d 8 m := (h.2.1 m m').1.2.1.2.2.2
  have fw : ∀ k : Nat, (k : Int) < (d 8 m).toInt → g' (81 + m) k = d 9 (6 * m + k) := (h.2.1 m m').1.2.2.2
  have f26 : g' 26 m = d 12 (12 + m) := (h.2.1 m m').2.2.1
  obtain ⟨N, hN⟩ : ∃ N : Nat, (d 8 m).toInt = (N : Int) := ⟨(d 8 m).toInt.toNat, by omega⟩
  have hNn : (d 8 m).toInt.toNat = N := by omega
  rw [ei, show m % 12 = m by omega]
  refine pc_ck (fun _ _ => pc_ltn (fun q eq => ?_))
  subst eq
  unfold fX1_idleMinutes_8_l28
  refine pc_loop (fun v => ∃ k : Nat, v.2.1.toInt = (k : Int) ∧ k ≤ N ∧ v.1 = fa (sI d (g' 43) (g' 44) m) v1 k ∧ v.2.2.1 = g') (fun k28 hk28 v hv => ?_) ⟨0, rfl, by omega, rfl, rfl⟩
  obtain ⟨w1, v4, g2, L2⟩ := v
  obtain ⟨k, hkk, kN, e2, eg⟩ := hv
  replace hkk : v4.toInt = (k : Int) := hkk
  replace e2 : w1 = fa (sI d (g' 43) (g' 44) m) v1 k := e2
  replace eg : g2 = g' := eg
  subst eg
  show Pc (fX1_idleMinutes_8_s28 fu k4 v2 (57 + m) k28 w1 v4 g2 L2) _
  unfold fX1_idleMinutes_8_s28
  have e4 : v4.toNatClampNeg = k := by rw [nc, hkk]; omega
  rw [f1, e4, ei, show 57 + m + 24 = 81 + m by omega]
  refine pc_ite (fun c1 => hk _ ⟨m + 1, ?_, by omega, ?_, rfl⟩) (fun c1 => ?_)
  · show (v2 + 1).toInt = _
    rw [ic_addc hm (n := 1) rfl (by omega) (by omega)]; omega
  · have c1 := icc_le hN hkk c1
    show w1 = fIdle d (g2 43) (g2 44) m (fo (fIdle d (g2 43) (g2 44)) m)
    unfold fIdle
    rw [hNn, e2, show k = N by omega, e1]; rfl
  have c1 := icc_nle hN hkk c1
  have wm := (hW m m').2.2 k (by omega)
  have ej : ∀ x4 : Int32, x4 = d 9 (6 * m + k) → x4.toInt = ((wf0 d m k : Nat) : Int) := fun x4 e => by rw [e]; unfold wf0; omega
  have jl : wf0 d m k < m := by unfold wf0; omega
  refine pc_ck (fun _ _ => pc_lti (fun x4 ex => pc_ck (fun _ _ => ?_)))
  rw [fw k (by omega)] at ex
  have ej := ej x4 ex
  have ej' : x4.toNatClampNeg = wf0 d m k := by rw [nc, ej]; omega
  rw [ej', show wf0 d m k % 12 = wf0 d m k by omega]
  refine pc_cb (way_x h ej hm (by omega) m') (fun x5 g6 L7 e5 => pc_ck (fun _ _ => pc_lti (fun x9 e9 => pc_ck (fun _ _ => pc_ltn (fun q10 eq10 => pc_ck (fun _ _ => pc_lti (fun x11 e11 => hk28 _ ⟨k + 1, ?_, by omega, ?_, e5.1⟩)))))))
  · show (v4 + 1).toInt = _
    rw [ic_addc hkk (n := 1) rfl (by omega) (by omega)]; omega
  · show x11 = sI d (g2 43) (g2 44) m k (fa (sI d (g2 43) (g2 44) m) v1 k)
    rw [e5.1, e5.2, f26] at e9
    have e9 : x9 = cmg d (g2 44) m k := e9
    rw [e11, eq10, e5.1, (h.2.1 _ (by omega)).1.1.2.2.2, e9, ← e2]; rfl
theorem idle_m (hM : MD cs n d) (e : Em d g) : Pc (fX12_idle_l13 fu 0 0 g L) (fun x g1 _ => g1 = g ∧ x = fo (fIdle d (g 31) (g 32)) n) := by
  obtain ⟨⟨hn, n12⟩, hW, h8, -⟩ := hM
  have e01 : (g 0 1).toInt = (n : Int) := by rw [e 0 (by omega)]; exact hn
  unfold fX12_idle_l13
  refine pc_loop (fun v => ∃ m : Nat, v.2.1.toInt = (m : Int) ∧ m ≤ n ∧ v.1 = fo (fIdle d (g 31) (g 32)) m ∧ v.2.2.1 = g) (fun k13 hk v hv => ?_) ⟨0, rfl, by omega, rfl, rfl⟩
  obtain ⟨v1, v2, g', L'⟩ := v
  obtain ⟨m, hm, mn, e1, eg⟩ := hv
  replace hm : v2.toInt = (m : Int) := hm
  replace e1 : v1 = fo (fIdle d (g 31) (g 32)) m := e1
  replace eg : g' = g := eg
  subst eg
  show Pc (fX12_idle_s13 fu k13 v1 v2 g' L') _
  unfold fX12_idle_s13
  have ei : v2.toNatClampNeg = m := by rw [nc, hm]; omega
  refine pc_ite (fun c => pc_some ⟨rfl, ?_⟩) (fun c => ?_)
  · have c := icc_le e01 hm c
    rw [e1, show m = n by omega]
  have c := icc_nle e01 hm c
  have m' : m < n := by omega
  have b8 := h8 m m'
  obtain ⟨N, hN⟩ : ∃ N : Nat, (d 8 m).toInt = (N : Int) := ⟨(d 8 m).toInt.toNat, by omega⟩
  have hNn : (d 8 m).toInt.toNat = N := by omega
  unfold fX12_idle_l23
  refine pc_loop (fun v => ∃ k : Nat, v.2.1.toInt = (k : Int) ∧ k ≤ N ∧ v.1 = fa (sI d (g' 31) (g' 32) m) v1 k ∧ v.2.2.1 = g') (fun k23 hk23 v hv => ?_) ⟨0, rfl, by omega, rfl, rfl⟩
  obtain ⟨w1, v3, g2, L2⟩ := v
  obtain ⟨k, hkk, kN, e2, eg⟩ := hv
  replace hkk : v3.toInt = (k : Int) := hkk
  replace e2 : w1 = fa (sI d (g' 31) (g' 32) m) v1 k := e2
  replace eg : g2 = g' := eg
  subst eg
  show Pc (fX12_idle_s23 fu k13 v2 k23 w1 v3 g2 L2) _
  unfold fX12_idle_s23 fX12_idle_p82
  rw [ei, e 8 (by omega), e 9 (by omega)]
  refine pc_ck (fun _ _ => pc_ite (fun c1 => hk _ ⟨m + 1, ?_, by omega, ?_, rfl⟩) (fun c1 => ?_))
  · show (v2 + 1).toInt = _
    rw [ic_addc hm (n := 1) rfl (by omega) (by omega)]; omega
  · have c1 := icc_le hN hkk c1
    show w1 = fIdle d (g2 31) (g2 32) m (fo (fIdle d (g2 31) (g2 32)) m)
    unfold fIdle
    rw [hNn, e2, show k = N by omega, e1]; rfl
  have c1 := icc_nle hN hkk c1
  have wm := (hW m m').2.2 k (by omega)
  have e6 : (6 * v2).toInt = 6 * (m : Int) := ic_mulc (m := 6) rfl hm (by omega) (by omega)
  have e7 : (6 * v2 + v3).toNatClampNeg = 6 * m + k := by rw [nc, ic_addc e6 hkk (by omega) (by omega)]; omega
  have ew : (v3 + 1).toInt = ((k + 1 : Nat) : Int) := by rw [ic_addc hkk (n := 1) rfl (by omega) (by omega)]; omega
  rw [e7]
  refine pc_ck (fun _ _ => pc_lti (fun x8 ex => pc_ck (fun _ _ => ?_)))
  have ej : x8.toInt = ((wf0 d m k : Nat) : Int) := by rw [ex]; unfold wf0; omega
  have ej' : x8.toNatClampNeg = wf0 d m k := by rw [nc, ej]; omega
  have jl : wf0 d m k < m := by unfold wf0; omega
  rw [ej']
  refine pc_cb (comes_m e ej hm (by omega) (by omega)) (fun x9 g10 L11 e9 => pc_lti (fun x13 e13 => ?_))
  obtain ⟨eg, e9⟩ := e9
  have e9 : x9 = cmg d (g2 32) m k := e9
  rw [e9] at e13
  have fin : ∀ (t : Int32) (La : lT), t = d 4 (wf0 d m k) * (if 0 < x13 then x13 else 0) → Pc (lti (w1 + t) (fun x14 => k23 (x14, (v3 + 1), g10, La))) (fun x g1 _ => g1 = g2 ∧ x = fo (fIdle d (g2 31) (g2 32)) n) := by
    intro t La ht
    refine pc_lti (fun x14 e14 => hk23 _ ⟨k + 1, ew, by omega, ?_, eg⟩)
    show x14 = sI d (g2 31) (g2 32) m k (fa (sI d (g2 31) (g2 32) m) v1 k)
    rw [e14, ht, e13, ← e2]; rfl
  refine pc_ite (fun c2 => fin _ _ ?_) (fun c2 => pc_ck (fun _ _ => fin _ _ ?_))
  · have c2 := ic_le.mp c2
    have c2 : x13.toInt ≤ 0 := c2
    rw [if_neg (fun h => by have := icc_lt (m := 0) (n := x13.toInt) rfl rfl h; omega)]
    exact Int32.mul_zero.symm
  · have c2 := icc_nle (m := x13.toInt) (n := 0) rfl rfl c2
    rw [if_pos (ic_lt.mpr (by show (0 : Int) < _; omega)), eg, e 4 (by omega)]
end X
theorem cr_idle {fu : Nat} {g gm g1 g2 : gT} {L Lm L1 L2 : lT} {rx rm : Int32} (h : CR g gm) (e1 : fX11_idle_0 fu g L = some (rx, (g1, L1))) (e2 : fX12_idle fu gm Lm = some (rm, (g2, L2))) : rx = rm := by
  unfold fX11_idle_0 at e1
  unfold fX12_idle sti at e2
  obtain ⟨xa, ga, La, ea, e1⟩ := cb_some e1
  obtain ⟨xc, gc, Lc, ec, e1⟩ := cb_some e1
  obtain ⟨xb, gb, Lb, eb, e2⟩ := cb_some e2
  cases e1
  obtain ⟨cs, hS, hX, hM, hW⟩ := both h e0_u ea eb
  obtain ⟨-, u⟩ := idle_x hX _ _ _ ec
  obtain ⟨-, v⟩ := idle_m hM hW.2 _ _ _ e2
  rw [u, v]
  refine fo_c (fun i hi a => ?_)
  unfold fIdle
  refine fa_c (fun k hk a => ?_)
  have jl := wf_lt hM.2.1 hi hk
  unfold sI
  rw [(hS i hi).1, cmg_c (hS _ (by omega)).2.1]
