section
/-! ===== what holds of the reference beside ranges ===== -/
def mSup (k j : Nat) : Bool := match k with
  | 0 => (match j with | 1 => true | 2 => true | 52 => true | 62 => true | 73 => true | 81 => true | 82 => true | 83 => true | 84 => true | _ => false)
  | 5 => true | 6 => true | 8 => true | 10 => true | 11 => true | 36 => true | 43 => true | 49 => true | 50 => true
  | _ => false
/-- code from place k on, with so many on the pile, comes to its stop -/
def wf (c : Nat → Int32) : Nat → Nat → Nat → Prop
  | 0, _, _ => False
  | n + 1, k, m => k < 1900 ∧ ((c k).toInt = 0 ∨ ((c k).toInt = 1 ∧ k + 1 < 1900 ∧ m < 950 ∧ wf c n (k + 2) (m + 1)) ∨ ((c k).toInt = 2 ∧ k + 1 < 1900 ∧ m < 950 ∧ 0 ≤ (c (k + 1)).toInt ∧ (c (k + 1)).toInt ≤ 5 ∧ wf c n (k + 2) (m + 1)) ∨ ((c k).toInt = 3 ∧ 1 ≤ m ∧ m ≤ 950 ∧ wf c n (k + 1) m) ∨ ((c k).toInt ≠ 0 ∧ (c k).toInt ≠ 1 ∧ (c k).toInt ≠ 2 ∧ (c k).toInt ≠ 3 ∧ 2 ≤ m ∧ m ≤ 950 ∧ wf c n (k + 1) (m - 1)))
def mLes (les : Int32) (kind some waits : Nat → Int32) : Prop := ∀ i : Nat, (i : Int) < les.toInt → ((kind i).toInt = 0 → 1 ≤ (waits i).toInt) ∧ ((kind i).toInt ≠ 0 → (kind i).toInt ≠ 2 → 1 ≤ (some i).toInt ∧ (some i).toInt ≤ 6)
def mAct (rules acts : Int32) (act : Nat → Int32) : Prop := ∀ k : Nat, (k : Int) < acts.toInt → 0 ≤ (act (2 * k)).toInt ∧ (act (2 * k)).toInt ≤ 48 ∧ ((act (2 * k)).toInt = 48 → -1 ≤ (act (2 * k + 1)).toInt ∧ (act (2 * k + 1)).toInt < rules.toInt)
def mSee (many : Int32) (seen : Nat → Int32) : Prop := ∀ k : Nat, (k : Int) < many.toInt → 0 ≤ (seen (2 * k)).toInt ∧ (seen (2 * k)).toInt ≤ 11
def mCod (rules : Int32) (ruleAt code : Nat → Int32) : Prop := ∀ r : Nat, (r : Int) < rules.toInt → 0 ≤ (ruleAt r).toInt ∧ ∃ n : Nat, n ≤ 2000 ∧ wf code n (ruleAt r).toNatClampNeg 0
def mJ (g : Nat → Nat → Int32) : Prop := mLes (g 0 1) (g 5) (g 6) (g 8) ∧ (g 0 52).toInt < (g 0 2).toInt ∧ mAct (g 0 2) (g 0 62) (g 36) ∧ mSee (g 0 73) (g 43) ∧ mCod (g 0 2) (g 10) (g 11) ∧ ((g 0 81).toInt ≠ 0 → (g 0 82).toInt < (g 0 2).toInt ∧ mAct (g 0 2) (g 0 83) (g 49) ∧ mSee (g 0 84) (g 50))
theorem mJ.congr {g g' : Nat → Nat → Int32} (h : ∀ k j, mSup k j = true → g' k j = g k j) (hJ : mJ g) : mJ g' := by
  have f : ∀ k, (∀ j, mSup k j = true) → g' k = g k := fun k hk => funext (fun j => h k j (hk j))
  unfold mJ
  rw [h 0 1 rfl, h 0 2 rfl, h 0 52 rfl, h 0 62 rfl, h 0 73 rfl, h 0 81 rfl, h 0 82 rfl, h 0 83 rfl, h 0 84 rfl, f 5 (fun _ => rfl), f 6 (fun _ => rfl), f 8 (fun _ => rfl), f 10 (fun _ => rfl), f 11 (fun _ => rfl), f 36 (fun _ => rfl), f 43 (fun _ => rfl), f 49 (fun _ => rfl), f 50 (fun _ => rfl)]
  exact hJ
theorem mJ.upd {g : Nat → Nat → Int32} {k j : Nat} {x : Int32} (hJ : mJ g) (hs : mSup k j = false) : mJ (upd2 g k j x) := by
  refine hJ.congr (fun k' j' h' => ?_)
  by_cases hk : k' = k
  · subst hk
    by_cases hj : j' = j
    · subst hj; rw [hs] at h'; exact nomatch h'
    · exact upd2_nj hj
  · exact upd2_nk hk
theorem nc (x : Int32) : x.toNatClampNeg = x.toInt.toNat := rfl
theorem mJ.les {g : Nat → Nat → Int32} (hJ : mJ g) {i : Int32} (h1 : 0 ≤ i.toInt) (h2 : i.toInt < (g 0 1).toInt) : ((g 5 i.toNatClampNeg).toInt = 0 → 1 ≤ (g 8 i.toNatClampNeg).toInt) ∧ ((g 5 i.toNatClampNeg).toInt ≠ 0 → (g 5 i.toNatClampNeg).toInt ≠ 2 → 1 ≤ (g 6 i.toNatClampNeg).toInt ∧ (g 6 i.toNatClampNeg).toInt ≤ 6) :=
  hJ.1 i.toNatClampNeg (by rw [nc]; omega)
theorem mJ.code {g : Nat → Nat → Int32} (hJ : mJ g) (h1 : 0 ≤ (g 0 52).toInt) : 0 ≤ (g 10 (g 0 52).toNatClampNeg).toInt ∧ ∃ n : Nat, n ≤ 2000 ∧ wf (g 11) n (g 10 (g 0 52).toNatClampNeg).toNatClampNeg 0 :=
  hJ.2.2.2.2.1 (g 0 52).toNatClampNeg (by have := hJ.2.1; rw [nc]; omega)
theorem mJ.see {g : Nat → Nat → Int32} (hJ : mJ g) {k : Int32} (h1 : 0 ≤ k.toInt) (h2 : k.toInt < (g 0 73).toInt) {j : Int32} (hj : j.toInt = 2 * k.toInt) : 0 ≤ (g 43 j.toNatClampNeg).toInt ∧ (g 43 j.toNatClampNeg).toInt ≤ 11 := by
  have h := hJ.2.2.2.1 k.toNatClampNeg (by rw [nc]; omega)
  have e : 2 * k.toNatClampNeg = j.toNatClampNeg := by rw [nc, nc]; omega
  rw [e] at h; exact h
theorem mJ.force {g : Nat → Nat → Int32} {x : Int32} (hJ : mJ g) (h : x.toInt < (g 0 2).toInt) : mJ (upd2 g 0 52 x) := ⟨hJ.1, h, hJ.2.2⟩
theorem mJ.unsee {g : Nat → Nat → Int32} {x : Int32} (hJ : mJ g) (h : x.toInt = 0) : mJ (upd2 g 0 73 x) := ⟨hJ.1, hJ.2.1, hJ.2.2.1, fun k hk => absurd hk (by show ¬ (k : Int) < x.toInt; omega), hJ.2.2.2.2.1, hJ.2.2.2.2.2⟩
set_option maxHeartbeats 4000000 in
theorem uX12_works (fu : Nat) (p1 p2 p3 : Int32) (g0 : Nat → Nat → Int32) (L0 : Nat → Nat → Int64) : Ex (fX12_works fu p1 p2 p3 g0 L0) (fun (r : Int32) g1 L1 => g1 = g0) := by
  have e : ∀ (x : Int32), Ex (some (x, (g0, L0))) (fun (r : Int32) g1 L1 => g1 = g0) := fun x => ⟨x, g0, L0, rfl, rfl⟩
  unfold fX12_works fX12_works_p56 fX12_works_p66 fX12_works_p57 fX12_works_p71 fX12_works_p82 fX12_works_p93 fX12_works_p117
  have hd : ¬ p3 = 0 → Ex (cnz p3 (some (p2 / p3, (g0, L0)))) (fun (r : Int32) g1 L1 => g1 = g0) := fun h => Ex.cnz h (e _)
  repeat' (apply Ex.ite <;> intro)
  all_goals first | exact e _ | contradiction
set_option maxHeartbeats 4000000 in
theorem sX12_reckons (fu : Nat) (hfu : 1180591620717411303424 ≤ fu) (p1 : Int32) (g0 : Nat → Nat → Int32) (L0 : Nat → Nat → Int64) (hI : zI MT g0) (hJ : mJ g0) (hp : 0 ≤ p1.toInt ∧ ∃ n : Nat, n ≤ 2000 ∧ wf (g0 11) n p1.toNatClampNeg 0) : Ex (fX12_reckons fu p1 g0 L0) (fun (r : Int32) g1 L1 => zI MT g1 ∧ mJ g1 ∧ g1 0 18 = g0 0 18 ∧ g1 0 2 = g0 0 2) := by
  have key : ∀ (n fuel : Nat) (v2 v3 : Int32) (g : Nat → Nat → Int32) (L : Nat → Nat → Int64), n < fuel → 0 ≤ v2.toInt → 0 ≤ v3.toInt → wf (g 11) n v3.toNatClampNeg v2.toNatClampNeg → zI MT g → mJ g → g 0 18 = g0 0 18 ∧ g 0 2 = g0 0 2 → Ex (whileK (fun k v => fX12_reckons_s4 fu k v.1 v.2.1 v.2.2.1 v.2.2.2) fuel (v2, v3, g, L)) (fun (r : Int32) g1 L1 => zI MT g1 ∧ mJ g1 ∧ g1 0 18 = g0 0 18 ∧ g1 0 2 = g0 0 2) := by
    intro n
    induction n with
    | zero => intro fuel v2 v3 g L _ _ _ h; exact h.elim
    | succ n ih =>
      intro fuel v2 v3 g L hf h2 h3 hw hI hJ hk
      obtain ⟨f, rfl⟩ : ∃ f, fuel = f + 1 := ⟨fuel - 1, by omega⟩
      obtain ⟨hk1, hw⟩ := hw
      have e2 := nc v2
      have e3 := nc v3
      have hr2 := ic_rg v2
      show Ex (fX12_reckons_s4 fu (whileK (fun k v => fX12_reckons_s4 fu k v.1 v.2.1 v.2.2.1 v.2.2.2) f) v2 v3 g L) _
      generalize hkk : whileK (fun k v => fX12_reckons_s4 fu k v.1 v.2.1 v.2.2.1 v.2.2.2) f = kk
      have ih : ∀ (v2 v3 : Int32) (g : Nat → Nat → Int32) (L : Nat → Nat → Int64), 0 ≤ v2.toInt → 0 ≤ v3.toInt → wf (g 11) n v3.toNatClampNeg v2.toNatClampNeg → zI MT g → mJ g → g 0 18 = g0 0 18 ∧ g 0 2 = g0 0 2 → Ex (kk (v2, v3, g, L)) (fun (r : Int32) g1 L1 => zI MT g1 ∧ mJ g1 ∧ g1 0 18 = g0 0 18 ∧ g1 0 2 = g0 0 2) := fun v2 v3 g L => by rw [← hkk]; exact ih f v2 v3 g L (by omega)
      have e31 : (v3 + 1).toInt = v3.toInt + 1 := ic_addc rfl (by decide) (by omega) (by omega)
      unfold fX12_reckons_s4
      refine Ex.ck (by omega) (by omega) ?_
      refine Ex.ite (fun c => Ex.ck (by decide) (by decide) (Ex.ret ⟨hI, hJ, hk⟩)) (fun c => ?_)
      have c := icc_neq (m := (g 11 v3.toNatClampNeg).toInt) (n := 0) rfl (by decide) c
      refine Ex.ck (by omega) (by omega) ?_
      refine Ex.lti (fun x xe xi => ?_)
      have n31 : (v3 + 1).toNatClampNeg = v3.toNatClampNeg + 1 := by rw [nc, e31]; omega
      have P36 : (x.toInt = 1 ∨ x.toInt = 2) → Ex (fX12_reckons_p36 fu kk v2 (v3 + 1) x g L) (fun (r : Int32) g1 L1 => zI MT g1 ∧ mJ g1 ∧ g1 0 18 = g0 0 18 ∧ g1 0 2 = g0 0 2) := by
        intro hx
        have hm : v3.toNatClampNeg + 1 < 1900 ∧ v2.toNatClampNeg < 950 ∧ (x.toInt = 2 → 0 ≤ (g 11 (v3.toNatClampNeg + 1)).toInt ∧ (g 11 (v3.toNatClampNeg + 1)).toInt ≤ 5) ∧ wf (g 11) n (v3.toNatClampNeg + 2) (v2.toNatClampNeg + 1) := by
          rcases hw with h | ⟨h, q1, q2, q3⟩ | ⟨h, q1, q2, q3, q4, q5⟩ | ⟨h, _⟩ | ⟨h, h1, h2, _⟩
          · omega
          · exact ⟨q1, q2, fun _ => by omega, q3⟩
          · exact ⟨q1, q2, fun _ => ⟨q3, q4⟩, q5⟩
          · omega
          · omega
        obtain ⟨m1, m2, m3, m4⟩ := hm
        have P67 : ∀ t0 : Int32, Ex (fX12_reckons_p67 fu kk v2 (v3 + 1) t0 v2 g L) (fun (r : Int32) g1 L1 => zI MT g1 ∧ mJ g1 ∧ g1 0 18 = g0 0 18 ∧ g1 0 2 = g0 0 2) := by
          intro t0
          unfold fX12_reckons_p67
          refine Ex.ck (by omega) (by omega) ?_
          refine Ex.sti (hI.updN rfl) (fun g1 g1e hI => ?_)
          unfold fX12_reckons_p140
          have e21 : (v2 + 1).toInt = v2.toInt + 1 := ic_addc rfl (by decide) (by omega) (by omega)
          have e32 : (v3 + 1 + 1).toInt = v3.toInt + 2 := (ic_addc (n := 1) e31 (by decide) (by omega) (by omega)).trans (by omega)
          refine ih _ _ _ _ (by omega) (by omega) ?_ hI (by rw [g1e]; exact hJ.upd rfl) (by rw [g1e]; exact hk)
          have n1 : (v3 + 1 + 1).toNatClampNeg = v3.toNatClampNeg + 2 := by rw [nc, e32]; omega
          have n2 : (v2 + 1).toNatClampNeg = v2.toNatClampNeg + 1 := by rw [nc, e21]; omega
          have n3 : g1 11 = g 11 := by rw [g1e]; rfl
          rw [n1, n2, n3]; exact m4
        unfold fX12_reckons_p36
        refine Ex.ite (fun cc => Ex.ck (by omega) (by omega) (P67 _)) (fun cc => ?_)
        have cc := icc_neq (m := x.toInt) (n := 1) rfl (by decide) cc
        have m3 := m3 (by omega)
        rw [← n31] at m3
        exact Ex.ck (by omega) (by omega) (Ex.ck (by omega) (by omega) (P67 _))
      refine Ex.ite (fun c1 => P36 (Or.inl (icc_eq (m := x.toInt) (n := 1) rfl (by decide) c1))) (fun c1 => ?_)
      refine Ex.ite (fun c2 => P36 (Or.inr (icc_eq (m := x.toInt) (n := 2) rfl (by decide) c2))) (fun c2 => ?_)
      have c1 := icc_neq (m := x.toInt) (n := 1) rfl (by decide) c1
      have c2 := icc_neq (m := x.toInt) (n := 2) rfl (by decide) c2
      refine Ex.ite (fun c3 => ?_) (fun c3 => ?_)
      · have c3 := icc_eq (m := x.toInt) (n := 3) rfl (by decide) c3
        have hm : 1 ≤ v2.toNatClampNeg ∧ v2.toNatClampNeg ≤ 950 ∧ wf (g 11) n (v3.toNatClampNeg + 1) v2.toNatClampNeg := by
          rcases hw with h | ⟨h, _⟩ | ⟨h, _⟩ | ⟨h, q⟩ | ⟨h, h1, h2, h3, _⟩
          · omega
          · omega
          · omega
          · exact q
          · omega
        obtain ⟨m1, m2, m3⟩ := hm
        have e21 : (v2 - 1).toInt = v2.toInt - 1 := ic_subc rfl (by decide) (by omega) (by omega)
        refine Ex.ck (by omega) (by omega) ?_
        have P : ∀ t0 : Int32, Ex (fX12_reckons_p106 fu kk v2 (v3 + 1) t0 (v2 - 1) g L) (fun (r : Int32) g1 L1 => zI MT g1 ∧ mJ g1 ∧ g1 0 18 = g0 0 18 ∧ g1 0 2 = g0 0 2) := by
          intro t0
          unfold fX12_reckons_p106
          refine Ex.ck (by omega) (by omega) ?_
          refine Ex.sti (hI.updN rfl) (fun g1 g1e hI => ?_)
          unfold fX12_reckons_p140
          refine ih _ _ _ _ (by omega) (by omega) ?_ hI (by rw [g1e]; exact hJ.upd rfl) (by rw [g1e]; exact hk)
          have n3 : g1 11 = g 11 := by rw [g1e]; rfl
          rw [n31, n3]; exact m3
        exact Ex.ite (fun _ => P 1) (fun _ => P 0)
      · have c3 := icc_neq (m := x.toInt) (n := 3) rfl (by decide) c3
        have hm : 2 ≤ v2.toNatClampNeg ∧ v2.toNatClampNeg ≤ 950 ∧ wf (g 11) n (v3.toNatClampNeg + 1) (v2.toNatClampNeg - 1) := by
          rcases hw with h | ⟨h, _⟩ | ⟨h, _⟩ | ⟨h, _⟩ | ⟨h, h1, h2, h3, q⟩
          · omega
          · omega
          · omega
          · omega
          · exact q
        obtain ⟨m1, m2, m3⟩ := hm
        clear e31
        generalize hz1 : v2 + (-1) = z1
        have e21 : z1.toInt = v2.toInt + -1 := by rw [← hz1]; exact ic_addc rfl (by decide) (by omega) (by omega)
        clear hz1
        generalize hz2 : z1 - 1 = z2
        have e22 : z2.toInt = z1.toInt - 1 := by rw [← hz2]; exact ic_subc rfl (by decide) (by omega) (by omega)
        clear hz2
        have e31 : (v3 + 1).toInt = v3.toInt + 1 := ic_addc rfl (by decide) (by omega) (by omega)
        refine Ex.ck (by omega) (by omega) ?_
        refine Ex.ck (by omega) (by omega) ?_
        refine Ex.cb (uX12_works fu _ _ _ g L) (fun x8 g9 L10 hg => ?_)
        subst hg
        refine Ex.ck (by omega) (by omega) ?_
        refine Ex.sti (hI.updN rfl) (fun g1 g1e hI => ?_)
        unfold fX12_reckons_p140
        refine ih _ _ _ _ (by omega) (by omega) ?_ hI (by rw [g1e]; exact hJ.upd rfl) (by rw [g1e]; exact hk)
        have n3 : g1 11 = g9 11 := by rw [g1e]; rfl
        have n4 : z1.toNatClampNeg = v2.toNatClampNeg - 1 := by rw [nc]; omega
        rw [n31, n3, n4]; exact m3
  obtain ⟨h1, n, h2, h3⟩ := hp
  unfold fX12_reckons fX12_reckons_l4
  exact key n fu 0 p1 g0 L0 (by omega) (by decide) h1 h3 hI hJ ⟨rfl, rfl⟩
end
section
set_option maxHeartbeats 4000000 in
set_option maxRecDepth 100000 in
theorem sX12_within (fu : Nat) (hfu : 1180591620717411303424 ≤ fu) (p1 : Int32) (p2 : Int32) (p3 : Int32) (g0 : Nat → Nat → Int32) (L0 : Nat → Nat → Int64) (hI : zI MT g0) (hJ : mJ g0) : Ex (fX12_within fu p1 p2 p3 g0 L0) (fun (r : Int32) (g1 : Nat → Nat → Int32) (L1 : Nat → Nat → Int64) => zI MT g1 ∧ mJ g1 ∧ g1 0 70 = g0 0 70 ∧ g1 0 79 = g0 0 79 ∧ g1 0 73 = g0 0 73 ∧ g1 0 18 = g0 0 18 ∧ g1 0 2 = g0 0 2 ∧ (0 ≤ (Int32.toInt r) ∧ (Int32.toInt r) ≤ 1) ∧ ((Int32.toInt r) = 1 → (Int32.toInt p2) ≤ (Int32.toInt p1) ∧ (Int32.toInt p1) ≤ (Int32.toInt p3))) := by
  have k0_0 : g0 0 70 = g0 0 70 := rfl
  have k0_1 : g0 0 79 = g0 0 79 := rfl
  have k0_2 : g0 0 73 = g0 0 73 := rfl
  have k0_3 : g0 0 18 = g0 0 18 := rfl
  have k0_4 : g0 0 2 = g0 0 2 := rfl
  unfold fX12_within
  have J15 : ∀ (t0 : Int32) (g : Nat → Nat → Int32) (L : Nat → Nat → Int64), (0 ≤ (Int32.toInt t0) ∧ (Int32.toInt t0) ≤ 1) → ((Int32.toInt t0) = 1 → (Int32.toInt p2) ≤ (Int32.toInt p1) ∧ (Int32.toInt p1) ≤ (Int32.toInt p3)) → zI MT g → mJ g → g 0 70 = g0 0 70 → g 0 79 = g0 0 79 → g 0 73 = g0 0 73 → g 0 18 = g0 0 18 → g 0 2 = g0 0 2 → Ex (fX12_within_p15 fu t0 g L) (fun (r : Int32) (g1 : Nat → Nat → Int32) (L1 : Nat → Nat → Int64) => zI MT g1 ∧ mJ g1 ∧ g1 0 70 = g0 0 70 ∧ g1 0 79 = g0 0 79 ∧ g1 0 73 = g0 0 73 ∧ g1 0 18 = g0 0 18 ∧ g1 0 2 = g0 0 2 ∧ (0 ≤ (Int32.toInt r) ∧ (Int32.toInt r) ≤ 1) ∧ ((Int32.toInt r) = 1 → (Int32.toInt p2) ≤ (Int32.toInt p1) ∧ (Int32.toInt p1) ≤ (Int32.toInt p3))) := by
    intro t0 g L hb_t0 hn_0 hI hJ k0_0 k0_1 k0_2 k0_3 k0_4
    unfold fX12_within_p15
    refine Ex.ckb (z_bool (by omega)) ?_
    exact Ex.ret ⟨hI, hJ, k0_0, k0_1, k0_2, k0_3, k0_4, (by omega), (by intro hr_; omega)⟩
  have J14 : ∀ (g : Nat → Nat → Int32) (L : Nat → Nat → Int64), zI MT g → mJ g → g 0 70 = g0 0 70 → g 0 79 = g0 0 79 → g 0 73 = g0 0 73 → g 0 18 = g0 0 18 → g 0 2 = g0 0 2 → Ex (fX12_within_p14 fu g L) (fun (r : Int32) (g1 : Nat → Nat → Int32) (L1 : Nat → Nat → Int64) => zI MT g1 ∧ mJ g1 ∧ g1 0 70 = g0 0 70 ∧ g1 0 79 = g0 0 79 ∧ g1 0 73 = g0 0 73 ∧ g1 0 18 = g0 0 18 ∧ g1 0 2 = g0 0 2 ∧ (0 ≤ (Int32.toInt r) ∧ (Int32.toInt r) ≤ 1) ∧ ((Int32.toInt r) = 1 → (Int32.toInt p2) ≤ (Int32.toInt p1) ∧ (Int32.toInt p1) ≤ (Int32.toInt p3))) := by
    intro g L hI hJ k0_0 k0_1 k0_2 k0_3 k0_4
    unfold fX12_within_p14
    have hc_ : (0 : Int32).toInt = 0 := by decide
    exact J15 0 g L (by decide) (by omega) hI hJ k0_0 k0_1 k0_2 k0_3 k0_4
  refine Ex.ite (fun c1 => ?_) (fun c1 => ?_)
  ·
    have c1 := icc_lt (m := (Int32.toInt p1)) (n := (Int32.toInt p2)) rfl rfl c1
    exact J14 g0 L0 hI hJ k0_0 k0_1 k0_2 k0_3 k0_4
  ·
    have c1 := icc_nlt (m := (Int32.toInt p1)) (n := (Int32.toInt p2)) rfl rfl c1
    refine Ex.ite (fun c2 => ?_) (fun c2 => ?_)
    ·
      have c2 := icc_lt (m := (Int32.toInt p3)) (n := (Int32.toInt p1)) rfl rfl c2
      exact J14 g0 L0 hI hJ k0_0 k0_1 k0_2 k0_3 k0_4
    ·
      have c2 := icc_nlt (m := (Int32.toInt p3)) (n := (Int32.toInt p1)) rfl rfl c2
      have hc_ : (1 : Int32).toInt = 1 := by decide
      exact J15 1 g0 L0 (by decide) (by omega) hI hJ k0_0 k0_1 k0_2 k0_3 k0_4
set_option maxHeartbeats 4000000 in
set_option maxRecDepth 100000 in
theorem sX12_right (fu : Nat) (hfu : 1180591620717411303424 ≤ fu) (p1 : Int32) (p2 : Int32) (g0 : Nat → Nat → Int32) (L0 : Nat → Nat → Int64) (hI : zI MT g0) (hJ : mJ g0) (hp1 : (0 ≤ (Int32.toInt p1) ∧ (Int32.toInt p1) ≤ 1)) (hp2 : (1 ≤ (Int32.toInt p2) ∧ (Int32.toInt p2) ≤ 2)) : Ex (fX12_right fu p1 p2 g0 L0) (fun (r : Int32) (g1 : Nat → Nat → Int32) (L1 : Nat → Nat → Int64) => zI MT g1 ∧ mJ g1 ∧ g1 0 18 = g0 0 18 ∧ g1 0 2 = g0 0 2 ∧ (0 ≤ (Int32.toInt r) ∧ (Int32.toInt r) ≤ 1) ∧ ((Int32.toInt r) = 1 → 1 ≤ (Int32.toInt p1) ∧ (Int32.toInt p1) ≤ 1)) := by
  have k0_0 : g0 0 18 = g0 0 18 := rfl
  have k0_1 : g0 0 2 = g0 0 2 := rfl
  unfold fX12_right
  have J16 : ∀ (g : Nat → Nat → Int32) (L : Nat → Nat → Int64), ((Int32.toInt (g 0 0)) = 0 → (Int32.toInt p1) = 1) → zI MT g → mJ g → g 0 18 = g0 0 18 → g 0 2 = g0 0 2 → Ex (fX12_right_p16 fu g L) (fun (r : Int32) (g1 : Nat → Nat → Int32) (L1 : Nat → Nat → Int64) => zI MT g1 ∧ mJ g1 ∧ g1 0 18 = g0 0 18 ∧ g1 0 2 = g0 0 2 ∧ (0 ≤ (Int32.toInt r) ∧ (Int32.toInt r) ≤ 1) ∧ ((Int32.toInt r) = 1 → 1 ≤ (Int32.toInt p1) ∧ (Int32.toInt p1) ≤ 1)) := by
    intro g L hn_0 hI hJ k0_0 k0_1
    unfold fX12_right_p16
    have J28 : ∀ (t0 : Int32) (g : Nat → Nat → Int32) (L : Nat → Nat → Int64), (0 ≤ (Int32.toInt t0) ∧ (Int32.toInt t0) ≤ 1) → ((Int32.toInt t0) = 1 → (Int32.toInt p1) = 1) → zI MT g → mJ g → g 0 18 = g0 0 18 → g 0 2 = g0 0 2 → Ex (fX12_right_p28 fu t0 g L) (fun (r : Int32) (g1 : Nat → Nat → Int32) (L1 : Nat → Nat → Int64) => zI MT g1 ∧ mJ g1 ∧ g1 0 18 = g0 0 18 ∧ g1 0 2 = g0 0 2 ∧ (0 ≤ (Int32.toInt r) ∧ (Int32.toInt r) ≤ 1) ∧ ((Int32.toInt r) = 1 → 1 ≤ (Int32.toInt p1) ∧ (Int32.toInt p1) ≤ 1)) := by
      intro t0 g L hb_t0 hn_0 hI hJ k0_0 k0_1
      unfold fX12_right_p28
      refine Ex.ckb (z_bool (by omega)) ?_
      exact Ex.ret ⟨hI, hJ, k0_0, k0_1, (by omega), (by intro hr_; omega)⟩
    refine Ex.ite (fun c1 => ?_) (fun c1 => ?_)
    ·
      have c1 := icc_eq (m := (Int32.toInt (g 0 0))) (n := 0) rfl (by decide) c1
      have hc_ : (1 : Int32).toInt = 1 := by decide
      exact J28 1 g L (by decide) (by omega) hI hJ k0_0 k0_1
    ·
      have c1 := icc_neq (m := (Int32.toInt (g 0 0))) (n := 0) rfl (by decide) c1
      have hc_ : (0 : Int32).toInt = 0 := by decide
      exact J28 0 g L (by decide) (by omega) hI hJ k0_0 k0_1
  refine Ex.ite (fun c2 => ?_) (fun c2 => ?_)
  ·
    have c2 := icc_eq (m := (Int32.toInt (g0 0 0))) (n := 0) rfl (by decide) c2
    refine Ex.ite (fun c3 => ?_) (fun c3 => ?_)
    ·
      have c3 := icc_eq (m := (Int32.toInt p1)) (n := 0) rfl (by decide) c3
      refine Ex.sti (hI.updN rfl) (fun g4 g4e hI => ?_)
      have k0_0 : g4 0 18 = g0 0 18 := by rw [g4e]; exact k0_0
      have k0_1 : g4 0 2 = g0 0 2 := by rw [g4e]; exact k0_1
      have hJ : mJ g4 := by rw [g4e]; exact mJ.upd hJ rfl
      have w5 : (Int32.toInt (g4 0 0)) = (Int32.toInt p2) := by rw [g4e, upd2_at]
      exact J16 g4 L0 (by omega) hI hJ k0_0 k0_1
    ·
      have c3 := icc_neq (m := (Int32.toInt p1)) (n := 0) rfl (by decide) c3
      exact J16 g0 L0 (by omega) hI hJ k0_0 k0_1
  ·
    have c2 := icc_neq (m := (Int32.toInt (g0 0 0))) (n := 0) rfl (by decide) c2
    exact J16 g0 L0 (by omega) hI hJ k0_0 k0_1
set_option maxHeartbeats 4000000 in
set_option maxRecDepth 100000 in
theorem sX12_works (fu : Nat) (hfu : 1180591620717411303424 ≤ fu) (p1 : Int32) (p2 : Int32) (p3 : Int32) (g0 : Nat → Nat → Int32) (L0 : Nat → Nat → Int64) (hI : zI MT g0) (hJ : mJ g0) : Ex (fX12_works fu p1 p2 p3 g0 L0) (fun (r : Int32) (g1 : Nat → Nat → Int32) (L1 : Nat → Nat → Int64) => zI MT g1 ∧ mJ g1 ∧ g1 0 18 = g0 0 18 ∧ g1 0 2 = g0 0 2) := by
  have k0_0 : g0 0 18 = g0 0 18 := rfl
  have k0_1 : g0 0 2 = g0 0 2 := rfl
  unfold fX12_works
  refine Ex.ite (fun c1 => ?_) (fun c1 => ?_)
  ·
    have J57 : ∀ (t0 : Int32) (g : Nat → Nat → Int32) (L : Nat → Nat → Int64), (0 ≤ (Int32.toInt t0) ∧ (Int32.toInt t0) ≤ 1) → zI MT g → mJ g → g 0 18 = g0 0 18 → g 0 2 = g0 0 2 → Ex (fX12_works_p57 fu t0 g L) (fun (r : Int32) (g1 : Nat → Nat → Int32) (L1 : Nat → Nat → Int64) => zI MT g1 ∧ mJ g1 ∧ g1 0 18 = g0 0 18 ∧ g1 0 2 = g0 0 2) := by
      intro t0 g L hb_t0 hI hJ k0_0 k0_1
      unfold fX12_works_p57
      exact Ex.ret ⟨hI, hJ, k0_0, k0_1⟩
    have J56 : ∀ (g : Nat → Nat → Int32) (L : Nat → Nat → Int64), zI MT g → mJ g → g 0 18 = g0 0 18 → g 0 2 = g0 0 2 → Ex (fX12_works_p56 fu g L) (fun (r : Int32) (g1 : Nat → Nat → Int32) (L1 : Nat → Nat → Int64) => zI MT g1 ∧ mJ g1 ∧ g1 0 18 = g0 0 18 ∧ g1 0 2 = g0 0 2) := by
      intro g L hI hJ k0_0 k0_1
      unfold fX12_works_p56
      exact J57 0 g L (by decide) hI hJ k0_0 k0_1
    refine Ex.ite (fun c2 => ?_) (fun c2 => ?_)
    ·
      have c2 := icc_eq (m := (Int32.toInt p2)) (n := 0) rfl (by decide) c2
      exact J56 g0 L0 hI hJ k0_0 k0_1
    ·
      have c2 := icc_neq (m := (Int32.toInt p2)) (n := 0) rfl (by decide) c2
      refine Ex.ite (fun c3 => ?_) (fun c3 => ?_)
      ·
        have c3 := icc_eq (m := (Int32.toInt p3)) (n := 0) rfl (by decide) c3
        exact J56 g0 L0 hI hJ k0_0 k0_1
      ·
        have c3 := icc_neq (m := (Int32.toInt p3)) (n := 0) rfl (by decide) c3
        exact J57 1 g0 L0 (by decide) hI hJ k0_0 k0_1
  ·
    refine Ex.ite (fun c4 => ?_) (fun c4 => ?_)
    ·
      have J71 : ∀ (t0 : Int32) (g : Nat → Nat → Int32) (L : Nat → Nat → Int64), (0 ≤ (Int32.toInt t0) ∧ (Int32.toInt t0) ≤ 1) → zI MT g → mJ g → g 0 18 = g0 0 18 → g 0 2 = g0 0 2 → Ex (fX12_works_p71 fu t0 g L) (fun (r : Int32) (g1 : Nat → Nat → Int32) (L1 : Nat → Nat → Int64) => zI MT g1 ∧ mJ g1 ∧ g1 0 18 = g0 0 18 ∧ g1 0 2 = g0 0 2) := by
        intro t0 g L hb_t0 hI hJ k0_0 k0_1
        unfold fX12_works_p71
        exact Ex.ret ⟨hI, hJ, k0_0, k0_1⟩
      have J66 : ∀ (g : Nat → Nat → Int32) (L : Nat → Nat → Int64), zI MT g → mJ g → g 0 18 = g0 0 18 → g 0 2 = g0 0 2 → Ex (fX12_works_p66 fu g L) (fun (r : Int32) (g1 : Nat → Nat → Int32) (L1 : Nat → Nat → Int64) => zI MT g1 ∧ mJ g1 ∧ g1 0 18 = g0 0 18 ∧ g1 0 2 = g0 0 2) := by
        intro g L hI hJ k0_0 k0_1
        unfold fX12_works_p66
        exact J71 1 g L (by decide) hI hJ k0_0 k0_1
      refine Ex.ite (fun c5 => ?_) (fun c5 => ?_)
      ·
        have c5 := icc_eq (m := (Int32.toInt p2)) (n := 0) rfl (by decide) c5
        refine Ex.ite (fun c6 => ?_) (fun c6 => ?_)
        ·
          have c6 := icc_eq (m := (Int32.toInt p3)) (n := 0) rfl (by decide) c6
          exact J71 0 g0 L0 (by decide) hI hJ k0_0 k0_1
        ·
          have c6 := icc_neq (m := (Int32.toInt p3)) (n := 0) rfl (by decide) c6
          exact J66 g0 L0 hI hJ k0_0 k0_1
      ·
        have c5 := icc_neq (m := (Int32.toInt p2)) (n := 0) rfl (by decide) c5
        exact J66 g0 L0 hI hJ k0_0 k0_1
    ·
      refine Ex.ite (fun c7 => ?_) (fun c7 => ?_)
      ·
        have J82 : ∀ (t0 : Int32) (g : Nat → Nat → Int32) (L : Nat → Nat → Int64), (0 ≤ (Int32.toInt t0) ∧ (Int32.toInt t0) ≤ 1) → zI MT g → mJ g → g 0 18 = g0 0 18 → g 0 2 = g0 0 2 → Ex (fX12_works_p82 fu t0 g L) (fun (r : Int32) (g1 : Nat → Nat → Int32) (L1 : Nat → Nat → Int64) => zI MT g1 ∧ mJ g1 ∧ g1 0 18 = g0 0 18 ∧ g1 0 2 = g0 0 2) := by
          intro t0 g L hb_t0 hI hJ k0_0 k0_1
          unfold fX12_works_p82
          exact Ex.ret ⟨hI, hJ, k0_0, k0_1⟩
        refine Ex.ite (fun c8 => ?_) (fun c8 => ?_)
        ·
          have c8 := icc_le (m := (Int32.toInt p3)) (n := (Int32.toInt p2)) rfl rfl c8
          exact J82 0 g0 L0 (by decide) hI hJ k0_0 k0_1
        ·
          have c8 := icc_nle (m := (Int32.toInt p3)) (n := (Int32.toInt p2)) rfl rfl c8
          exact J82 1 g0 L0 (by decide) hI hJ k0_0 k0_1
      ·
        refine Ex.ite (fun c9 => ?_) (fun c9 => ?_)
        ·
          have J93 : ∀ (t0 : Int32) (g : Nat → Nat → Int32) (L : Nat → Nat → Int64), (0 ≤ (Int32.toInt t0) ∧ (Int32.toInt t0) ≤ 1) → zI MT g → mJ g → g 0 18 = g0 0 18 → g 0 2 = g0 0 2 → Ex (fX12_works_p93 fu t0 g L) (fun (r : Int32) (g1 : Nat → Nat → Int32) (L1 : Nat → Nat → Int64) => zI MT g1 ∧ mJ g1 ∧ g1 0 18 = g0 0 18 ∧ g1 0 2 = g0 0 2) := by
            intro t0 g L hb_t0 hI hJ k0_0 k0_1
            unfold fX12_works_p93
            exact Ex.ret ⟨hI, hJ, k0_0, k0_1⟩
          refine Ex.ite (fun c10 => ?_) (fun c10 => ?_)
          ·
            have c10 := icc_eq (m := (Int32.toInt p2)) (n := (Int32.toInt p3)) rfl rfl c10
            exact J93 1 g0 L0 (by decide) hI hJ k0_0 k0_1
          ·
            have c10 := icc_neq (m := (Int32.toInt p2)) (n := (Int32.toInt p3)) rfl rfl c10
            exact J93 0 g0 L0 (by decide) hI hJ k0_0 k0_1
        ·
          refine Ex.ite (fun c11 => ?_) (fun c11 => ?_)
          ·
            generalize z12q : (p2 + p3) = z12
            exact Ex.ret ⟨hI, hJ, k0_0, k0_1⟩
          ·
            refine Ex.ite (fun c13 => ?_) (fun c13 => ?_)
            ·
              generalize z14q : (p2 - p3) = z14
              exact Ex.ret ⟨hI, hJ, k0_0, k0_1⟩
            ·
              refine Ex.ite (fun c15 => ?_) (fun c15 => ?_)
              ·
                generalize z16q : (p2 * p3) = z16
                exact Ex.ret ⟨hI, hJ, k0_0, k0_1⟩
              ·
                have J117 : ∀ (t0 : Int32) (g : Nat → Nat → Int32) (L : Nat → Nat → Int64), zI MT g → mJ g → g 0 18 = g0 0 18 → g 0 2 = g0 0 2 → Ex (fX12_works_p117 fu t0 g L) (fun (r : Int32) (g1 : Nat → Nat → Int32) (L1 : Nat → Nat → Int64) => zI MT g1 ∧ mJ g1 ∧ g1 0 18 = g0 0 18 ∧ g1 0 2 = g0 0 2) := by
                  intro t0 g L hI hJ k0_0 k0_1
                  unfold fX12_works_p117
                  exact Ex.ret ⟨hI, hJ, k0_0, k0_1⟩
                refine Ex.ite (fun c17 => ?_) (fun c17 => ?_)
                ·
                  have c17 := icc_eq (m := (Int32.toInt p3)) (n := 0) rfl (by decide) c17
                  exact J117 0 g0 L0 hI hJ k0_0 k0_1
                ·
                  have c17 := icc_neq (m := (Int32.toInt p3)) (n := 0) rfl (by decide) c17
                  refine Ex.cnz (fun h_ => absurd (icc_eq (n := 0) rfl (by decide) h_) (by omega)) ?_
                  generalize z18q : (p2 / p3) = z18
                  exact J117 z18 g0 L0 hI hJ k0_0 k0_1
set_option maxHeartbeats 4000000 in
set_option maxRecDepth 100000 in
theorem sX12_off (fu : Nat) (hfu : 1180591620717411303424 ≤ fu) (p1 : Int32) (p2 : Int32) (g0 : Nat → Nat → Int32) (L0 : Nat → Nat → Int64) (hI : zI MT g0) (hJ : mJ g0) : Ex (fX12_off fu p1 p2 g0 L0) (fun (r : Int32) (g1 : Nat → Nat → Int32) (L1 : Nat → Nat → Int64) => zI MT g1 ∧ mJ g1 ∧ g1 0 79 = g0 0 79 ∧ g1 0 18 = g0 0 18 ∧ g1 0 2 = g0 0 2) := by
  have k0_0 : g0 0 79 = g0 0 79 := rfl
  have k0_1 : g0 0 18 = g0 0 18 := rfl
  have k0_2 : g0 0 2 = g0 0 2 := rfl
  unfold fX12_off
  have J14 : ∀ (t0 : Int32) (g : Nat → Nat → Int32) (L : Nat → Nat → Int64), zI MT g → mJ g → g 0 79 = g0 0 79 → g 0 18 = g0 0 18 → g 0 2 = g0 0 2 → Ex (fX12_off_p14 fu t0 g L) (fun (r : Int32) (g1 : Nat → Nat → Int32) (L1 : Nat → Nat → Int64) => zI MT g1 ∧ mJ g1 ∧ g1 0 79 = g0 0 79 ∧ g1 0 18 = g0 0 18 ∧ g1 0 2 = g0 0 2) := by
    intro t0 g L hI hJ k0_0 k0_1 k0_2
    unfold fX12_off_p14
    exact Ex.ret ⟨hI, hJ, k0_0, k0_1, k0_2⟩
  refine Ex.ite (fun c1 => ?_) (fun c1 => ?_)
  ·
    have c1 := icc_le (m := (Int32.toInt p2)) (n := (Int32.toInt p1)) rfl rfl c1
    generalize z2q : (p1 - p2) = z2
    exact J14 z2 g0 L0 hI hJ k0_0 k0_1 k0_2
  ·
    have c1 := icc_nle (m := (Int32.toInt p2)) (n := (Int32.toInt p1)) rfl rfl c1
    generalize z3q : (p2 - p1) = z3
    exact J14 z3 g0 L0 hI hJ k0_0 k0_1 k0_2
set_option maxHeartbeats 4000000 in
set_option maxRecDepth 100000 in
theorem sX12_isStair (fu : Nat) (hfu : 1180591620717411303424 ≤ fu) (p1 : Int32) (p2 : Int32) (g0 : Nat → Nat → Int32) (L0 : Nat → Nat → Int64) (hI : zI MT g0) (hJ : mJ g0) : Ex (fX12_isStair fu p1 p2 g0 L0) (fun (r : Int32) (g1 : Nat → Nat → Int32) (L1 : Nat → Nat → Int64) => zI MT g1 ∧ mJ g1 ∧ g1 0 79 = g0 0 79 ∧ g1 0 18 = g0 0 18 ∧ g1 0 2 = g0 0 2 ∧ (0 ≤ (Int32.toInt r) ∧ (Int32.toInt r) ≤ 1)) := by
  have k0_0 : g0 0 79 = g0 0 79 := rfl
  have k0_1 : g0 0 18 = g0 0 18 := rfl
  have k0_2 : g0 0 2 = g0 0 2 := rfl
  unfold fX12_isStair
  have J10 : ∀ (v1 : Int32) (t0 : Int32) (g : Nat → Nat → Int32) (L : Nat → Nat → Int64), (0 ≤ (Int32.toInt t0) ∧ (Int32.toInt t0) ≤ 1) → zI MT g → mJ g → g 0 79 = g0 0 79 → g 0 18 = g0 0 18 → g 0 2 = g0 0 2 → Ex (fX12_isStair_p10 fu v1 t0 g L) (fun (r : Int32) (g1 : Nat → Nat → Int32) (L1 : Nat → Nat → Int64) => zI MT g1 ∧ mJ g1 ∧ g1 0 79 = g0 0 79 ∧ g1 0 18 = g0 0 18 ∧ g1 0 2 = g0 0 2 ∧ (0 ≤ (Int32.toInt r) ∧ (Int32.toInt r) ≤ 1)) := by
    intro v1 t0 g L hb_t0 hI hJ k0_0 k0_1 k0_2
    unfold fX12_isStair_p10
    have J20 : ∀ (t0 : Int32) (t1 : Int32) (g : Nat → Nat → Int32) (L : Nat → Nat → Int64), (0 ≤ (Int32.toInt t0) ∧ (Int32.toInt t0) ≤ 1) → (0 ≤ (Int32.toInt t1) ∧ (Int32.toInt t1) ≤ 1) → zI MT g → mJ g → g 0 79 = g0 0 79 → g 0 18 = g0 0 18 → g 0 2 = g0 0 2 → Ex (fX12_isStair_p20 fu t0 t1 g L) (fun (r : Int32) (g1 : Nat → Nat → Int32) (L1 : Nat → Nat → Int64) => zI MT g1 ∧ mJ g1 ∧ g1 0 79 = g0 0 79 ∧ g1 0 18 = g0 0 18 ∧ g1 0 2 = g0 0 2 ∧ (0 ≤ (Int32.toInt r) ∧ (Int32.toInt r) ≤ 1)) := by
      intro t0 t1 g L hb_t0 hb_t1 hI hJ k0_0 k0_1 k0_2
      unfold fX12_isStair_p20
      have J28 : ∀ (t0 : Int32) (g : Nat → Nat → Int32) (L : Nat → Nat → Int64), (0 ≤ (Int32.toInt t0) ∧ (Int32.toInt t0) ≤ 1) → zI MT g → mJ g → g 0 79 = g0 0 79 → g 0 18 = g0 0 18 → g 0 2 = g0 0 2 → Ex (fX12_isStair_p28 fu t0 g L) (fun (r : Int32) (g1 : Nat → Nat → Int32) (L1 : Nat → Nat → Int64) => zI MT g1 ∧ mJ g1 ∧ g1 0 79 = g0 0 79 ∧ g1 0 18 = g0 0 18 ∧ g1 0 2 = g0 0 2 ∧ (0 ≤ (Int32.toInt r) ∧ (Int32.toInt r) ≤ 1)) := by
        intro t0 g L hb_t0 hI hJ k0_0 k0_1 k0_2
        unfold fX12_isStair_p28
        refine Ex.ckb (z_bool (by omega)) ?_
        exact Ex.ret ⟨hI, hJ, k0_0, k0_1, k0_2, (by omega)⟩
      refine Ex.ite (fun c1 => ?_) (fun c1 => ?_)
      ·
        have c1 := icc_eq (m := (Int32.toInt t1)) (n := (Int32.toInt t0)) rfl rfl c1
        exact J28 0 g L (by decide) hI hJ k0_0 k0_1 k0_2
      ·
        have c1 := icc_neq (m := (Int32.toInt t1)) (n := (Int32.toInt t0)) rfl rfl c1
        exact J28 1 g L (by decide) hI hJ k0_0 k0_1 k0_2
    refine Ex.ite (fun c2 => ?_) (fun c2 => ?_)
    ·
      have c2 := icc_le (m := 5) (n := (Int32.toInt v1)) (by decide) rfl c2
      exact J20 0 t0 g L (by decide) (by omega) hI hJ k0_0 k0_1 k0_2
    ·
      have c2 := icc_nle (m := 5) (n := (Int32.toInt v1)) (by decide) rfl c2
      exact J20 1 t0 g L (by decide) (by omega) hI hJ k0_0 k0_1 k0_2
  refine Ex.ite (fun c3 => ?_) (fun c3 => ?_)
  ·
    have c3 := icc_le (m := 5) (n := (Int32.toInt p1)) (by decide) rfl c3
    exact J10 p2 0 g0 L0 (by decide) hI hJ k0_0 k0_1 k0_2
  ·
    have c3 := icc_nle (m := 5) (n := (Int32.toInt p1)) (by decide) rfl c3
    exact J10 p2 1 g0 L0 (by decide) hI hJ k0_0 k0_1 k0_2
set_option maxHeartbeats 4000000 in
set_option maxRecDepth 100000 in
theorem sX12_way (fu : Nat) (hfu : 1180591620717411303424 ≤ fu) (p1 : Int32) (p2 : Int32) (g0 : Nat → Nat → Int32) (L0 : Nat → Nat → Int64) (hI : zI MT g0) (hJ : mJ g0) (hp1 : (0 ≤ (Int32.toInt p1) ∧ (Int32.toInt p1) ≤ 11)) (hp2 : (0 ≤ (Int32.toInt p2) ∧ (Int32.toInt p2) ≤ 11)) : Ex (fX12_way fu p1 p2 g0 L0) (fun (r : Int32) (g1 : Nat → Nat → Int32) (L1 : Nat → Nat → Int64) => zI MT g1 ∧ mJ g1 ∧ g1 0 79 = g0 0 79 ∧ g1 0 18 = g0 0 18 ∧ g1 0 2 = g0 0 2) := by
  have k0_0 : g0 0 79 = g0 0 79 := rfl
  have k0_1 : g0 0 18 = g0 0 18 := rfl
  have k0_2 : g0 0 2 = g0 0 2 := rfl
  unfold fX12_way
  generalize z1q : (24 + p1) = z1
  have e2 : (Int32.toInt z1) = 24 + (Int32.toInt p1) := by rw [← z1q]; exact ic_addc (by decide) rfl (by omega) (by omega)
  refine Ex.ck (by omega) (by omega) ?_
  refine Ex.lti (fun x3 x3e x3i => ?_)
  generalize z4q : (24 + p2) = z4
  have e5 : (Int32.toInt z4) = 24 + (Int32.toInt p2) := by rw [← z4q]; exact ic_addc (by decide) rfl (by omega) (by omega)
  refine Ex.ck (by omega) (by omega) ?_
  refine Ex.lti (fun x6 x6e x6i => ?_)
  refine Ex.cb (sX12_off fu hfu x3 x6 g0 L0 hI hJ) (fun x7 g8 L9 hq11 => ?_)
  obtain ⟨hI, hJ, kk0, kk1, kk2⟩ := hq11
  have hI : zI MT g8 := hI
  have hJ : mJ g8 := hJ
  have k0_0 : g8 0 79 = g0 0 79 := kk0.trans k0_0
  have k0_1 : g8 0 18 = g0 0 18 := kk1.trans k0_1
  have k0_2 : g8 0 2 = g0 0 2 := kk2.trans k0_2
  generalize z12q : ((g0 0 3) * x7) = z12
  refine Ex.cb (sX12_isStair fu hfu x3 x6 g8 L9 hI hJ) (fun x13 g14 L15 hq17 => ?_)
  obtain ⟨hI, hJ, kk0, kk1, kk2, rb_⟩ := hq17
  have b18 : 0 ≤ (Int32.toInt x13) ∧ (Int32.toInt x13) ≤ 1 := rb_
  have hI : zI MT g14 := hI
  have hJ : mJ g14 := hJ
  have k0_0 : g14 0 79 = g0 0 79 := kk0.trans k0_0
  have k0_1 : g14 0 18 = g0 0 18 := kk1.trans k0_1
  have k0_2 : g14 0 2 = g0 0 2 := kk2.trans k0_2
  have J63 : ∀ (t0 : Int32) (t1 : Int32) (g : Nat → Nat → Int32) (L : Nat → Nat → Int64), zI MT g → mJ g → g 0 79 = g0 0 79 → g 0 18 = g0 0 18 → g 0 2 = g0 0 2 → Ex (fX12_way_p63 fu t0 t1 g L) (fun (r : Int32) (g1 : Nat → Nat → Int32) (L1 : Nat → Nat → Int64) => zI MT g1 ∧ mJ g1 ∧ g1 0 79 = g0 0 79 ∧ g1 0 18 = g0 0 18 ∧ g1 0 2 = g0 0 2) := by
    intro t0 t1 g L hI hJ k0_0 k0_1 k0_2
    unfold fX12_way_p63
    generalize z19q : (t1 + t0) = z19
    exact Ex.ret ⟨hI, hJ, k0_0, k0_1, k0_2⟩
  refine Ex.ite (fun c20 => ?_) (fun c20 => ?_)
  ·
    have c20 := icc_eq (m := (Int32.toInt x13)) (n := 0) rfl (by decide) c20
    exact J63 0 z12 g14 L15 hI hJ k0_0 k0_1 k0_2
  ·
    have c20 := icc_neq (m := (Int32.toInt x13)) (n := 0) rfl (by decide) c20
    refine Ex.ck (by omega) (by omega) ?_
    have b21 : 1 ≤ (Int32.toInt (g14 0 4)) ∧ (Int32.toInt (g14 0 4)) ≤ 99 := hI 0 4 1 99 rfl
    generalize z22q : ((g14 4 (Int32.toNatClampNeg p1)) + (g14 0 4)) = z22
    generalize z23q : (z22 - 1) = z23
    have b24 : 1 ≤ (Int32.toInt (g14 0 4)) ∧ (Int32.toInt (g14 0 4)) ≤ 99 := hI 0 4 1 99 rfl
    refine Ex.cnz (fun h_ => absurd (icc_eq (n := 0) rfl (by decide) h_) (by omega)) ?_
    generalize z25q : (z23 / (g14 0 4)) = z25
    exact J63 z25 z12 g14 L15 hI hJ k0_0 k0_1 k0_2
set_option maxHeartbeats 4000000 in
set_option maxRecDepth 100000 in
theorem sX12_comes (fu : Nat) (hfu : 1180591620717411303424 ≤ fu) (p1 : Int32) (p2 : Int32) (g0 : Nat → Nat → Int32) (L0 : Nat → Nat → Int64) (hI : zI MT g0) (hJ : mJ g0) (hp1 : (0 ≤ (Int32.toInt p1) ∧ (Int32.toInt p1) ≤ 11)) (hp2 : (0 ≤ (Int32.toInt p2) ∧ (Int32.toInt p2) ≤ 11)) : Ex (fX12_comes fu p1 p2 g0 L0) (fun (r : Int32) (g1 : Nat → Nat → Int32) (L1 : Nat → Nat → Int64) => zI MT g1 ∧ mJ g1 ∧ g1 0 18 = g0 0 18 ∧ g1 0 2 = g0 0 2) := by
  have k0_0 : g0 0 18 = g0 0 18 := rfl
  have k0_1 : g0 0 2 = g0 0 2 := rfl
  unfold fX12_comes
  refine Ex.ck (by omega) (by omega) ?_
  refine Ex.cb (sX12_way fu hfu p1 p2 g0 L0 hI hJ (by omega) (by omega)) (fun x1 g2 L3 hq5 => ?_)
  obtain ⟨hI, hJ, kk0, kk1, kk2⟩ := hq5
  have hI : zI MT g2 := hI
  have hJ : mJ g2 := hJ
  have k0_0 : g2 0 18 = g0 0 18 := kk1.trans k0_0
  have k0_1 : g2 0 2 = g0 0 2 := kk2.trans k0_1
  generalize z6q : ((g0 32 (Int32.toNatClampNeg p1)) + x1) = z6
  generalize z7q : (12 + p2) = z7
  have e8 : (Int32.toInt z7) = 12 + (Int32.toInt p2) := by rw [← z7q]; exact ic_addc (by decide) rfl (by omega) (by omega)
  refine Ex.ck (by omega) (by omega) ?_
  generalize z9q : (z6 - (g2 12 (Int32.toNatClampNeg z7))) = z9
  exact Ex.ret ⟨hI, hJ, k0_0, k0_1⟩
set_option maxHeartbeats 4000000 in
set_option maxRecDepth 100000 in
theorem sX12_late (fu : Nat) (hfu : 1180591620717411303424 ≤ fu) (p1 : Int32) (g0 : Nat → Nat → Int32) (L0 : Nat → Nat → Int64) (hI : zI MT g0) (hJ : mJ g0) (hp1 : (0 ≤ (Int32.toInt p1) ∧ (Int32.toInt p1) ≤ 11)) : Ex (fX12_late fu p1 g0 L0) (fun (r : Int32) (g1 : Nat → Nat → Int32) (L1 : Nat → Nat → Int64) => zI MT g1 ∧ mJ g1 ∧ g1 0 18 = g0 0 18 ∧ g1 0 2 = g0 0 2) := by
  have k0_0 : g0 0 18 = g0 0 18 := rfl
  have k0_1 : g0 0 2 = g0 0 2 := rfl
  unfold fX12_late
  refine Ex.ck (by omega) (by omega) ?_
  refine Ex.ck (by omega) (by omega) ?_
  generalize z1q : ((g0 32 (Int32.toNatClampNeg p1)) - (g0 2 (Int32.toNatClampNeg p1))) = z1
  exact Ex.ret ⟨hI, hJ, k0_0, k0_1⟩
set_option maxHeartbeats 4000000 in
set_option maxRecDepth 100000 in
theorem sX12_thereBy (fu : Nat) (hfu : 1180591620717411303424 ≤ fu) (p1 : Int32) (p2 : Int32) (g0 : Nat → Nat → Int32) (L0 : Nat → Nat → Int64) (hI : zI MT g0) (hJ : mJ g0) (hp1 : (0 ≤ (Int32.toInt p1) ∧ (Int32.toInt p1) ≤ 11)) (hp2 : (1 ≤ (Int32.toInt p2) ∧ (Int32.toInt p2) ≤ 6)) : Ex (fX12_thereBy fu p1 p2 g0 L0) (fun (r : Int32) (g1 : Nat → Nat → Int32) (L1 : Nat → Nat → Int64) => zI MT g1 ∧ mJ g1 ∧ g1 0 18 = g0 0 18 ∧ g1 0 2 = g0 0 2) := by
  have k0_0 : g0 0 18 = g0 0 18 := rfl
  have k0_1 : g0 0 2 = g0 0 2 := rfl
  unfold fX12_thereBy
  refine Ex.ck (by omega) (by omega) ?_
  have b1 : 0 ≤ (Int32.toInt (g0 8 (Int32.toNatClampNeg p1))) ∧ (Int32.toInt (g0 8 (Int32.toNatClampNeg p1))) ≤ 6 := hI 8 _ 0 6 rfl
  refine Ex.lti (fun x2 x2e x2i => ?_)
  have lp10 : ∀ (v1 : Int32) (v2 : Int32) (v3 : Int32) (v4 : Int32) (g : Nat → Nat → Int32) (L : Nat → Nat → Int64), (0 ≤ (Int32.toInt v1) ∧ (Int32.toInt v1) ≤ 11) → (1 ≤ (Int32.toInt v2) ∧ (Int32.toInt v2) ≤ 6) → (0 ≤ (Int32.toInt v3) ∧ (Int32.toInt v3) ≤ 6) → (0 ≤ (Int32.toInt v4) ∧ (Int32.toInt v4) ≤ 6) → zI MT g → mJ g → g 0 18 = g0 0 18 → g 0 2 = g0 0 2 → Ex (fX12_thereBy_l10 fu v1 v2 v3 v4 g L) (fun (r : Int32) (g1 : Nat → Nat → Int32) (L1 : Nat → Nat → Int64) => zI MT g1 ∧ mJ g1 ∧ g1 0 18 = g0 0 18 ∧ g1 0 2 = g0 0 2) := by
    intro v1 v2 v3 v4 g L hb_v1 hb_v2 hb_v3 hb_v4 hI hJ k0_0 k0_1
    unfold fX12_thereBy_l10
    refine Ex.loop (fun v => ((0 ≤ (Int32.toInt v1) ∧ (Int32.toInt v1) ≤ 11)) ∧ ((1 ≤ (Int32.toInt v2) ∧ (Int32.toInt v2) ≤ 6)) ∧ ((0 ≤ (Int32.toInt v3) ∧ (Int32.toInt v3) ≤ 6)) ∧ ((0 ≤ (Int32.toInt (v.1)) ∧ (Int32.toInt (v.1)) ≤ 6)) ∧ (zI MT (v.2.1)) ∧ (mJ (v.2.1)) ∧ ((v.2.1) 0 18 = g0 0 18) ∧ ((v.2.1) 0 2 = g0 0 2)) (fun v => 7 - (Int32.toInt (v.1))) (by omega) (by show 7 - (Int32.toInt v4) < (fu : Int); omega) ⟨hb_v1, hb_v2, hb_v3, hb_v4, hI, hJ, k0_0, k0_1⟩ (fun k10 v hv ih10 => ?_)
    obtain ⟨v4, g, L⟩ := v
    obtain ⟨hb_v1, hb_v2, hb_v3, hb_v4, hI, hJ, k0_0, k0_1⟩ := hv
    have hb_v1 : (0 ≤ (Int32.toInt v1) ∧ (Int32.toInt v1) ≤ 11) := hb_v1
    have hb_v2 : (1 ≤ (Int32.toInt v2) ∧ (Int32.toInt v2) ≤ 6) := hb_v2
    have hb_v3 : (0 ≤ (Int32.toInt v3) ∧ (Int32.toInt v3) ≤ 6) := hb_v3
    have hb_v4 : (0 ≤ (Int32.toInt v4) ∧ (Int32.toInt v4) ≤ 6) := hb_v4
    have hI : zI MT g := hI
    have hJ : mJ g := hJ
    have k0_0 : g 0 18 = g0 0 18 := k0_0
    have k0_1 : g 0 2 = g0 0 2 := k0_1
    have ih10 : ∀ v' : Int32 × (Nat → Nat → Int32) × (Nat → Nat → Int64), (((0 ≤ (Int32.toInt v1) ∧ (Int32.toInt v1) ≤ 11)) ∧ ((1 ≤ (Int32.toInt v2) ∧ (Int32.toInt v2) ≤ 6)) ∧ ((0 ≤ (Int32.toInt v3) ∧ (Int32.toInt v3) ≤ 6)) ∧ ((0 ≤ (Int32.toInt (v'.1)) ∧ (Int32.toInt (v'.1)) ≤ 6)) ∧ (zI MT (v'.2.1)) ∧ (mJ (v'.2.1)) ∧ ((v'.2.1) 0 18 = g0 0 18) ∧ ((v'.2.1) 0 2 = g0 0 2)) → 7 - (Int32.toInt (v'.1)) < 7 - (Int32.toInt v4) → 0 < 7 - (Int32.toInt v4) → Ex (k10 v') (fun (r : Int32) (g1 : Nat → Nat → Int32) (L1 : Nat → Nat → Int64) => zI MT g1 ∧ mJ g1 ∧ g1 0 18 = g0 0 18 ∧ g1 0 2 = g0 0 2) := ih10
    show Ex (fX12_thereBy_s10 fu v1 v2 v3 k10 v4 g L) (fun (r : Int32) (g1 : Nat → Nat → Int32) (L1 : Nat → Nat → Int64) => zI MT g1 ∧ mJ g1 ∧ g1 0 18 = g0 0 18 ∧ g1 0 2 = g0 0 2)
    unfold fX12_thereBy_s10
    refine Ex.ite (fun c3 => ?_) (fun c3 => ?_)
    ·
      have c3 := icc_le (m := (Int32.toInt v3)) (n := (Int32.toInt v4)) rfl rfl c3
      generalize z4q : (v2 - 1) = z4
      have e5 : (Int32.toInt z4) = (Int32.toInt v2) - 1 := by rw [← z4q]; exact ic_subc rfl (by decide) (by omega) (by omega)
      refine Ex.ck (by omega) (by omega) ?_
      exact Ex.ret ⟨hI, hJ, k0_0, k0_1⟩
    ·
      have c3 := icc_nle (m := (Int32.toInt v3)) (n := (Int32.toInt v4)) rfl rfl c3
      generalize z6q : (6 * v1) = z6
      have e7 : (Int32.toInt z6) = 6 * (Int32.toInt v1) := by rw [← z6q]; exact ic_mulc (by decide) rfl (by omega) (by omega)
      generalize z8q : (z6 + v4) = z8
      have e9 : (Int32.toInt z8) = (Int32.toInt z6) + (Int32.toInt v4) := by rw [← z8q]; exact ic_addc rfl rfl (by omega) (by omega)
      refine Ex.ck (by omega) (by omega) ?_
      have b10 : 0 ≤ (Int32.toInt (g 9 (Int32.toNatClampNeg z8))) ∧ (Int32.toInt (g 9 (Int32.toNatClampNeg z8))) ≤ 11 := hI 9 _ 0 11 rfl
      refine Ex.cb (sX12_comes fu hfu (g 9 (Int32.toNatClampNeg z8)) v1 g L hI hJ (by omega) (by omega)) (fun x11 g12 L13 hq15 => ?_)
      obtain ⟨hI, hJ, kk0, kk1⟩ := hq15
      have hI : zI MT g12 := hI
      have hJ : mJ g12 := hJ
      have k0_0 : g12 0 18 = g0 0 18 := kk0.trans k0_0
      have k0_1 : g12 0 2 = g0 0 2 := kk1.trans k0_1
      have lp39 : ∀ (v5 : Int32) (v6 : Int32) (g : Nat → Nat → Int32) (L : Nat → Nat → Int64), (0 ≤ (Int32.toInt v1) ∧ (Int32.toInt v1) ≤ 11) → (1 ≤ (Int32.toInt v2) ∧ (Int32.toInt v2) ≤ 6) → (1 ≤ (Int32.toInt v3) ∧ (Int32.toInt v3) ≤ 6) → (0 ≤ (Int32.toInt v4) ∧ (Int32.toInt v4) ≤ 5) → (0 ≤ (Int32.toInt v6) ∧ (Int32.toInt v6) ≤ 5) → zI MT g → mJ g → g 0 18 = g0 0 18 → g 0 2 = g0 0 2 → Ex (fX12_thereBy_l39 fu k10 v1 v2 v3 v4 v5 v6 g L) (fun (r : Int32) (g1 : Nat → Nat → Int32) (L1 : Nat → Nat → Int64) => zI MT g1 ∧ mJ g1 ∧ g1 0 18 = g0 0 18 ∧ g1 0 2 = g0 0 2) := by
        intro v5 v6 g L hb_v1 hb_v2 hb_v3 hb_v4 hb_v6 hI hJ k0_0 k0_1
        unfold fX12_thereBy_l39
        refine Ex.loop (fun v => ((0 ≤ (Int32.toInt v1) ∧ (Int32.toInt v1) ≤ 11)) ∧ ((1 ≤ (Int32.toInt v2) ∧ (Int32.toInt v2) ≤ 6)) ∧ ((1 ≤ (Int32.toInt v3) ∧ (Int32.toInt v3) ≤ 6)) ∧ ((0 ≤ (Int32.toInt v4) ∧ (Int32.toInt v4) ≤ 5)) ∧ ((0 ≤ (Int32.toInt (v.1)) ∧ (Int32.toInt (v.1)) ≤ 5)) ∧ (zI MT (v.2.1)) ∧ (mJ (v.2.1)) ∧ ((v.2.1) 0 18 = g0 0 18) ∧ ((v.2.1) 0 2 = g0 0 2)) (fun v => (Int32.toInt (v.1)) - (-1)) (by omega) (by show (Int32.toInt v6) - (-1) < (fu : Int); omega) ⟨hb_v1, hb_v2, hb_v3, hb_v4, hb_v6, hI, hJ, k0_0, k0_1⟩ (fun k39 v hv ih39 => ?_)
        obtain ⟨v6, g, L⟩ := v
        obtain ⟨hb_v1, hb_v2, hb_v3, hb_v4, hb_v6, hI, hJ, k0_0, k0_1⟩ := hv
        have hb_v1 : (0 ≤ (Int32.toInt v1) ∧ (Int32.toInt v1) ≤ 11) := hb_v1
        have hb_v2 : (1 ≤ (Int32.toInt v2) ∧ (Int32.toInt v2) ≤ 6) := hb_v2
        have hb_v3 : (1 ≤ (Int32.toInt v3) ∧ (Int32.toInt v3) ≤ 6) := hb_v3
        have hb_v4 : (0 ≤ (Int32.toInt v4) ∧ (Int32.toInt v4) ≤ 5) := hb_v4
        have hb_v6 : (0 ≤ (Int32.toInt v6) ∧ (Int32.toInt v6) ≤ 5) := hb_v6
        have hI : zI MT g := hI
        have hJ : mJ g := hJ
        have k0_0 : g 0 18 = g0 0 18 := k0_0
        have k0_1 : g 0 2 = g0 0 2 := k0_1
        have ih39 : ∀ v' : Int32 × (Nat → Nat → Int32) × (Nat → Nat → Int64), (((0 ≤ (Int32.toInt v1) ∧ (Int32.toInt v1) ≤ 11)) ∧ ((1 ≤ (Int32.toInt v2) ∧ (Int32.toInt v2) ≤ 6)) ∧ ((1 ≤ (Int32.toInt v3) ∧ (Int32.toInt v3) ≤ 6)) ∧ ((0 ≤ (Int32.toInt v4) ∧ (Int32.toInt v4) ≤ 5)) ∧ ((0 ≤ (Int32.toInt (v'.1)) ∧ (Int32.toInt (v'.1)) ≤ 5)) ∧ (zI MT (v'.2.1)) ∧ (mJ (v'.2.1)) ∧ ((v'.2.1) 0 18 = g0 0 18) ∧ ((v'.2.1) 0 2 = g0 0 2)) → (Int32.toInt (v'.1)) - (-1) < (Int32.toInt v6) - (-1) → 0 < (Int32.toInt v6) - (-1) → Ex (k39 v') (fun (r : Int32) (g1 : Nat → Nat → Int32) (L1 : Nat → Nat → Int64) => zI MT g1 ∧ mJ g1 ∧ g1 0 18 = g0 0 18 ∧ g1 0 2 = g0 0 2) := ih39
        show Ex (fX12_thereBy_s39 fu k10 v1 v2 v3 v4 v5 k39 v6 g L) (fun (r : Int32) (g1 : Nat → Nat → Int32) (L1 : Nat → Nat → Int64) => zI MT g1 ∧ mJ g1 ∧ g1 0 18 = g0 0 18 ∧ g1 0 2 = g0 0 2)
        unfold fX12_thereBy_s39
        have J80 : ∀ (v5 : Int32) (v6 : Int32) (g : Nat → Nat → Int32) (L : Nat → Nat → Int64), (0 ≤ (Int32.toInt v1) ∧ (Int32.toInt v1) ≤ 11) → (1 ≤ (Int32.toInt v2) ∧ (Int32.toInt v2) ≤ 6) → (1 ≤ (Int32.toInt v3) ∧ (Int32.toInt v3) ≤ 6) → (0 ≤ (Int32.toInt v4) ∧ (Int32.toInt v4) ≤ 5) → (0 ≤ (Int32.toInt v6) ∧ (Int32.toInt v6) ≤ 5) → zI MT g → mJ g → g 0 18 = g0 0 18 → g 0 2 = g0 0 2 → Ex (fX12_thereBy_p80 fu k10 v1 v2 v3 v4 v5 v6 g L) (fun (r : Int32) (g1 : Nat → Nat → Int32) (L1 : Nat → Nat → Int64) => zI MT g1 ∧ mJ g1 ∧ g1 0 18 = g0 0 18 ∧ g1 0 2 = g0 0 2) := by
          intro v5 v6 g L hb_v1 hb_v2 hb_v3 hb_v4 hb_v6 hI hJ k0_0 k0_1
          unfold fX12_thereBy_p80
          refine Ex.ck (by omega) (by omega) ?_
          refine Ex.sti (hI.updN rfl) (fun g16 g16e hI => ?_)
          have k0_0 : g16 0 18 = g0 0 18 := by rw [g16e]; exact k0_0
          have k0_1 : g16 0 2 = g0 0 2 := by rw [g16e]; exact k0_1
          have hJ : mJ g16 := by rw [g16e]; exact mJ.upd hJ rfl
          generalize z17q : (v4 + 1) = z17
          have e18 : (Int32.toInt z17) = (Int32.toInt v4) + 1 := by rw [← z17q]; exact ic_addc rfl (by decide) (by omega) (by omega)
          exact ih10 (z17, g16, L) ⟨(show (0 ≤ (Int32.toInt v1) ∧ (Int32.toInt v1) ≤ 11) from by omega), (show (1 ≤ (Int32.toInt v2) ∧ (Int32.toInt v2) ≤ 6) from by omega), (show (0 ≤ (Int32.toInt v3) ∧ (Int32.toInt v3) ≤ 6) from by omega), (show (0 ≤ (Int32.toInt z17) ∧ (Int32.toInt z17) ≤ 6) from by omega), hI, hJ, k0_0, k0_1⟩ (by show 7 - (Int32.toInt z17) < _; omega) (by omega)
        refine Ex.ite (fun c19 => ?_) (fun c19 => ?_)
        ·
          have c19 := icc_le (m := (Int32.toInt v6)) (n := 0) rfl (by decide) c19
          exact J80 v5 v6 g L (by omega) (by omega) (by omega) (by omega) (by omega) hI hJ k0_0 k0_1
        ·
          have c19 := icc_nle (m := (Int32.toInt v6)) (n := 0) rfl (by decide) c19
          generalize z20q : (v6 - 1) = z20
          have e21 : (Int32.toInt z20) = (Int32.toInt v6) - 1 := by rw [← z20q]; exact ic_subc rfl (by decide) (by omega) (by omega)
          refine Ex.ck (by omega) (by omega) ?_
          refine Ex.ite (fun c22 => ?_) (fun c22 => ?_)
          ·
            have c22 := icc_le (m := (Int32.toInt (g 35 (Int32.toNatClampNeg z20)))) (n := (Int32.toInt v5)) rfl rfl c22
            exact J80 v5 v6 g L (by omega) (by omega) (by omega) (by omega) (by omega) hI hJ k0_0 k0_1
          ·
            have c22 := icc_nle (m := (Int32.toInt (g 35 (Int32.toNatClampNeg z20)))) (n := (Int32.toInt v5)) rfl rfl c22
            have e23 : (Int32.toInt z20) = (Int32.toInt v6) - 1 := by rw [← z20q]; exact ic_subc rfl (by decide) (by omega) (by omega)
            refine Ex.ck (by omega) (by omega) ?_
            refine Ex.ck (by omega) (by omega) ?_
            refine Ex.sti (hI.updN rfl) (fun g24 g24e hI => ?_)
            have k0_0 : g24 0 18 = g0 0 18 := by rw [g24e]; exact k0_0
            have k0_1 : g24 0 2 = g0 0 2 := by rw [g24e]; exact k0_1
            have hJ : mJ g24 := by rw [g24e]; exact mJ.upd hJ rfl
            generalize z25q : (v6 + (-1)) = z25
            have e26 : (Int32.toInt z25) = (Int32.toInt v6) + (-1) := by rw [← z25q]; exact ic_addc rfl (by decide) (by omega) (by omega)
            exact ih39 (z25, g24, L) ⟨(show (0 ≤ (Int32.toInt v1) ∧ (Int32.toInt v1) ≤ 11) from by omega), (show (1 ≤ (Int32.toInt v2) ∧ (Int32.toInt v2) ≤ 6) from by omega), (show (1 ≤ (Int32.toInt v3) ∧ (Int32.toInt v3) ≤ 6) from by omega), (show (0 ≤ (Int32.toInt v4) ∧ (Int32.toInt v4) ≤ 5) from by omega), (show (0 ≤ (Int32.toInt z25) ∧ (Int32.toInt z25) ≤ 5) from by omega), hI, hJ, k0_0, k0_1⟩ (by show (Int32.toInt z25) - (-1) < _; omega) (by omega)
      exact lp39 x11 v4 g12 L13 (by omega) (by omega) (by omega) (by omega) (by omega) hI hJ k0_0 k0_1
  exact lp10 p1 p2 x2 0 g0 L0 (by omega) (by omega) (by omega) (by decide) hI hJ k0_0 k0_1
set_option maxHeartbeats 4000000 in
set_option maxRecDepth 100000 in
theorem sX12_runsOver (fu : Nat) (hfu : 1180591620717411303424 ≤ fu) (p1 : Int32) (g0 : Nat → Nat → Int32) (L0 : Nat → Nat → Int64) (hI : zI MT g0) (hJ : mJ g0) (hp1 : (0 ≤ (Int32.toInt p1) ∧ (Int32.toInt p1) ≤ 11)) : Ex (fX12_runsOver fu p1 g0 L0) (fun (r : Int32) (g1 : Nat → Nat → Int32) (L1 : Nat → Nat → Int64) => zI MT g1 ∧ mJ g1 ∧ g1 0 18 = g0 0 18 ∧ g1 0 2 = g0 0 2 ∧ (0 ≤ (Int32.toInt r) ∧ (Int32.toInt r) ≤ 180)) := by
  have k0_0 : g0 0 18 = g0 0 18 := rfl
  have k0_1 : g0 0 2 = g0 0 2 := rfl
  unfold fX12_runsOver
  generalize z1q : (((g0 0 60) : Int32) >>> ((p1 : Int32) &&& 31) : Int32) = z1
  generalize z2q : (z1 &&& 1) = z2
  have b3 : 0 ≤ (Int32.toInt z2) ∧ (Int32.toInt z2) ≤ 1 := by rw [← z2q]; exact ic_and1 _
  refine Ex.ite (fun c4 => ?_) (fun c4 => ?_)
  ·
    have c4 := icc_eq (m := (Int32.toInt z2)) (n := 1) rfl (by decide) c4
    exact Ex.ret ⟨hI, hJ, k0_0, k0_1, (by decide)⟩
  ·
    have c4 := icc_neq (m := (Int32.toInt z2)) (n := 1) rfl (by decide) c4
    generalize z5q : (0 + p1) = z5
    have e6 : (Int32.toInt z5) = 0 + (Int32.toInt p1) := by rw [← z5q]; exact ic_addc (by decide) rfl (by omega) (by omega)
    refine Ex.ck (by omega) (by omega) ?_
    refine Ex.lti (fun x7 x7e x7i => ?_)
    have b8 : (-1) ≤ (Int32.toInt (g0 0 52)) ∧ (Int32.toInt (g0 0 52)) ≤ 3 := hI 0 52 (-1) 3 rfl
    have J117 : ∀ (v1 : Int32) (v2 : Int32) (g : Nat → Nat → Int32) (L : Nat → Nat → Int64), (0 ≤ (Int32.toInt v1) ∧ (Int32.toInt v1) ≤ 11) → zI MT g → mJ g → g 0 18 = g0 0 18 → g 0 2 = g0 0 2 → Ex (fX12_runsOver_p117 fu v1 v2 g L) (fun (r : Int32) (g1 : Nat → Nat → Int32) (L1 : Nat → Nat → Int64) => zI MT g1 ∧ mJ g1 ∧ g1 0 18 = g0 0 18 ∧ g1 0 2 = g0 0 2 ∧ (0 ≤ (Int32.toInt r) ∧ (Int32.toInt r) ≤ 180)) := by
      intro v1 v2 g L hb_v1 hI hJ k0_0 k0_1
      unfold fX12_runsOver_p117
      have J133 : ∀ (v2 : Int32) (t0 : Int32) (g : Nat → Nat → Int32) (L : Nat → Nat → Int64), (60 ≤ (Int32.toInt t0) ∧ (Int32.toInt t0) ≤ 180) → zI MT g → mJ g → g 0 18 = g0 0 18 → g 0 2 = g0 0 2 → Ex (fX12_runsOver_p133 fu v2 t0 g L) (fun (r : Int32) (g1 : Nat → Nat → Int32) (L1 : Nat → Nat → Int64) => zI MT g1 ∧ mJ g1 ∧ g1 0 18 = g0 0 18 ∧ g1 0 2 = g0 0 2 ∧ (0 ≤ (Int32.toInt r) ∧ (Int32.toInt r) ≤ 180)) := by
        intro v2 t0 g L hb_t0 hI hJ k0_0 k0_1
        unfold fX12_runsOver_p133
        have J152 : ∀ (t0 : Int32) (g : Nat → Nat → Int32) (L : Nat → Nat → Int64), (0 ≤ (Int32.toInt t0) ∧ (Int32.toInt t0) ≤ 180) → zI MT g → mJ g → g 0 18 = g0 0 18 → g 0 2 = g0 0 2 → Ex (fX12_runsOver_p152 fu t0 g L) (fun (r : Int32) (g1 : Nat → Nat → Int32) (L1 : Nat → Nat → Int64) => zI MT g1 ∧ mJ g1 ∧ g1 0 18 = g0 0 18 ∧ g1 0 2 = g0 0 2 ∧ (0 ≤ (Int32.toInt r) ∧ (Int32.toInt r) ≤ 180)) := by
          intro t0 g L hb_t0 hI hJ k0_0 k0_1
          unfold fX12_runsOver_p152
          exact Ex.ret ⟨hI, hJ, k0_0, k0_1, (by omega)⟩
        refine Ex.ite (fun c9 => ?_) (fun c9 => ?_)
        ·
          have c9 := icc_le (m := 0) (n := (Int32.toInt v2)) (by decide) rfl c9
          refine Ex.ite (fun c10 => ?_) (fun c10 => ?_)
          ·
            have c10 := icc_le (m := (Int32.toInt v2)) (n := (Int32.toInt t0)) rfl rfl c10
            exact J152 v2 g L (by omega) hI hJ k0_0 k0_1
          ·
            have c10 := icc_nle (m := (Int32.toInt v2)) (n := (Int32.toInt t0)) rfl rfl c10
            exact J152 t0 g L (by omega) hI hJ k0_0 k0_1
        ·
          have c9 := icc_nle (m := 0) (n := (Int32.toInt v2)) (by decide) rfl c9
          exact J152 0 g L (by decide) hI hJ k0_0 k0_1
      refine Ex.ite (fun c11 => ?_) (fun c11 => ?_)
      ·
        have c11 := icc_eq (m := (Int32.toInt (g 0 61))) (n := (Int32.toInt v1)) rfl rfl c11
        exact J133 v2 180 g L (by decide) hI hJ k0_0 k0_1
      ·
        have c11 := icc_neq (m := (Int32.toInt (g 0 61))) (n := (Int32.toInt v1)) rfl rfl c11
        exact J133 v2 60 g L (by decide) hI hJ k0_0 k0_1
    refine Ex.ite (fun c12 => ?_) (fun c12 => ?_)
    ·
      have c12 := icc_eq (m := (Int32.toInt (g0 0 52))) (n := (-1)) rfl (by decide) c12
      exact J117 p1 x7 g0 L0 (by omega) hI hJ k0_0 k0_1
    ·
      have c12 := icc_neq (m := (Int32.toInt (g0 0 52))) (n := (-1)) rfl (by decide) c12
      refine Ex.ck (by decide) (by decide) ?_
      refine Ex.sti (hI.updN rfl) (fun g13 g13e hI => ?_)
      have w14 : (Int32.toInt (g13 0 52)) = (Int32.toInt (g0 0 52)) := by rw [g13e]; rfl
      have k0_0 : g13 0 18 = g0 0 18 := by rw [g13e]; exact k0_0
      have k0_1 : g13 0 2 = g0 0 2 := by rw [g13e]; exact k0_1
      have hJ : mJ g13 := by rw [g13e]; exact mJ.upd hJ rfl
      refine Ex.ck (by omega) (by omega) ?_
      refine Ex.ck (by omega) (by omega) ?_
      generalize z15q : ((g13 31 (Int32.toNatClampNeg p1)) - (g13 1 (Int32.toNatClampNeg p1))) = z15
      refine Ex.ck (by decide) (by decide) ?_
      refine Ex.sti (hI.updN rfl) (fun g16 g16e hI => ?_)
      have w17 : (Int32.toInt (g16 0 52)) = (Int32.toInt (g13 0 52)) := by rw [g16e]; rfl
      have k0_0 : g16 0 18 = g0 0 18 := by rw [g16e]; exact k0_0
      have k0_1 : g16 0 2 = g0 0 2 := by rw [g16e]; exact k0_1
      have hJ : mJ g16 := by rw [g16e]; exact mJ.upd hJ rfl
      refine Ex.ck (by omega) (by omega) ?_
      refine Ex.ck (by decide) (by decide) ?_
      refine Ex.sti (hI.updN rfl) (fun g18 g18e hI => ?_)
      have w19 : (Int32.toInt (g18 0 52)) = (Int32.toInt (g16 0 52)) := by rw [g18e]; rfl
      have k0_0 : g18 0 18 = g0 0 18 := by rw [g18e]; exact k0_0
      have k0_1 : g18 0 2 = g0 0 2 := by rw [g18e]; exact k0_1
      have hJ : mJ g18 := by rw [g18e]; exact mJ.upd hJ rfl
      generalize z20q : (24 + p1) = z20
      have e21 : (Int32.toInt z20) = 24 + (Int32.toInt p1) := by rw [← z20q]; exact ic_addc (by decide) rfl (by omega) (by omega)
      refine Ex.ck (by omega) (by omega) ?_
      refine Ex.ck (by decide) (by decide) ?_
      refine Ex.sti (hI.updN rfl) (fun g22 g22e hI => ?_)
      have w23 : (Int32.toInt (g22 0 52)) = (Int32.toInt (g18 0 52)) := by rw [g22e]; rfl
      have k0_0 : g22 0 18 = g0 0 18 := by rw [g22e]; exact k0_0
      have k0_1 : g22 0 2 = g0 0 2 := by rw [g22e]; exact k0_1
      have hJ : mJ g22 := by rw [g22e]; exact mJ.upd hJ rfl
      refine Ex.ck (by omega) (by omega) ?_
      refine Ex.ck (by decide) (by decide) ?_
      refine Ex.sti (hI.updN rfl) (fun g24 g24e hI => ?_)
      have w25 : (Int32.toInt (g24 0 52)) = (Int32.toInt (g22 0 52)) := by rw [g24e]; rfl
      have k0_0 : g24 0 18 = g0 0 18 := by rw [g24e]; exact k0_0
      have k0_1 : g24 0 2 = g0 0 2 := by rw [g24e]; exact k0_1
      have hJ : mJ g24 := by rw [g24e]; exact mJ.upd hJ rfl
      refine Ex.ck (by decide) (by decide) ?_
      refine Ex.sti (hI.updN rfl) (fun g26 g26e hI => ?_)
      have w27 : (Int32.toInt (g26 0 52)) = (Int32.toInt (g24 0 52)) := by rw [g26e]; rfl
      have k0_0 : g26 0 18 = g0 0 18 := by rw [g26e]; exact k0_0
      have k0_1 : g26 0 2 = g0 0 2 := by rw [g26e]; exact k0_1
      have hJ : mJ g26 := by rw [g26e]; exact mJ.upd hJ rfl
      have b28 : (-1) ≤ (Int32.toInt (g26 0 52)) ∧ (Int32.toInt (g26 0 52)) ≤ 3 := hI 0 52 (-1) 3 rfl
      refine Ex.ck (by omega) (by omega) ?_
      refine Ex.cb (sX12_reckons fu hfu (g26 10 (Int32.toNatClampNeg (g26 0 52))) g26 L0 hI hJ (mJ.code hJ (by omega))) (fun x29 g30 L31 hq33 => ?_)
      obtain ⟨hI, hJ, kk0, kk1⟩ := hq33
      have hI : zI MT g30 := hI
      have hJ : mJ g30 := hJ
      have k0_0 : g30 0 18 = g0 0 18 := kk0.trans k0_0
      have k0_1 : g30 0 2 = g0 0 2 := kk1.trans k0_1
      exact J117 p1 x29 g30 L31 (by omega) hI hJ k0_0 k0_1
set_option maxHeartbeats 4000000 in
set_option maxRecDepth 100000 in
theorem sX12_works0 (fu : Nat) (hfu : 1180591620717411303424 ≤ fu) (g0 : Nat → Nat → Int32) (L0 : Nat → Nat → Int64) (hI : zI MT g0) (hJ : mJ g0) : Ex (fX12_works0 fu g0 L0) (fun (r : Unit) (g1 : Nat → Nat → Int32) (L1 : Nat → Nat → Int64) => zI MT g1 ∧ mJ g1 ∧ g1 0 18 = g0 0 18 ∧ g1 0 2 = g0 0 2) := by
  have k0_0 : g0 0 18 = g0 0 18 := rfl
  have k0_1 : g0 0 2 = g0 0 2 := rfl
  unfold fX12_works0
  have lp2 : ∀ (v1 : Int32) (g : Nat → Nat → Int32) (L : Nat → Nat → Int64), (0 ≤ (Int32.toInt v1) ∧ (Int32.toInt v1) ≤ 12) → zI MT g → mJ g → g 0 18 = g0 0 18 → g 0 2 = g0 0 2 → Ex (fX12_works0_l2 fu v1 g L) (fun (r : Unit) (g1 : Nat → Nat → Int32) (L1 : Nat → Nat → Int64) => zI MT g1 ∧ mJ g1 ∧ g1 0 18 = g0 0 18 ∧ g1 0 2 = g0 0 2) := by
    intro v1 g L hb_v1 hI hJ k0_0 k0_1
    unfold fX12_works0_l2
    refine Ex.loop (fun v => ((0 ≤ (Int32.toInt (v.1)) ∧ (Int32.toInt (v.1)) ≤ 12)) ∧ (zI MT (v.2.1)) ∧ (mJ (v.2.1)) ∧ ((v.2.1) 0 18 = g0 0 18) ∧ ((v.2.1) 0 2 = g0 0 2)) (fun v => 13 - (Int32.toInt (v.1))) (by omega) (by show 13 - (Int32.toInt v1) < (fu : Int); omega) ⟨hb_v1, hI, hJ, k0_0, k0_1⟩ (fun k2 v hv ih2 => ?_)
    obtain ⟨v1, g, L⟩ := v
    obtain ⟨hb_v1, hI, hJ, k0_0, k0_1⟩ := hv
    have hb_v1 : (0 ≤ (Int32.toInt v1) ∧ (Int32.toInt v1) ≤ 12) := hb_v1
    have hI : zI MT g := hI
    have hJ : mJ g := hJ
    have k0_0 : g 0 18 = g0 0 18 := k0_0
    have k0_1 : g 0 2 = g0 0 2 := k0_1
    have ih2 : ∀ v' : Int32 × (Nat → Nat → Int32) × (Nat → Nat → Int64), (((0 ≤ (Int32.toInt (v'.1)) ∧ (Int32.toInt (v'.1)) ≤ 12)) ∧ (zI MT (v'.2.1)) ∧ (mJ (v'.2.1)) ∧ ((v'.2.1) 0 18 = g0 0 18) ∧ ((v'.2.1) 0 2 = g0 0 2)) → 13 - (Int32.toInt (v'.1)) < 13 - (Int32.toInt v1) → 0 < 13 - (Int32.toInt v1) → Ex (k2 v') (fun (r : Unit) (g1 : Nat → Nat → Int32) (L1 : Nat → Nat → Int64) => zI MT g1 ∧ mJ g1 ∧ g1 0 18 = g0 0 18 ∧ g1 0 2 = g0 0 2) := ih2
    show Ex (fX12_works0_s2 fu k2 v1 g L) (fun (r : Unit) (g1 : Nat → Nat → Int32) (L1 : Nat → Nat → Int64) => zI MT g1 ∧ mJ g1 ∧ g1 0 18 = g0 0 18 ∧ g1 0 2 = g0 0 2)
    unfold fX12_works0_s2
    have b1 : 0 ≤ (Int32.toInt (g 0 1)) ∧ (Int32.toInt (g 0 1)) ≤ 12 := hI 0 1 0 12 rfl
    refine Ex.ite (fun c2 => ?_) (fun c2 => ?_)
    ·
      have c2 := icc_le (m := (Int32.toInt (g 0 1))) (n := (Int32.toInt v1)) rfl rfl c2
      exact Ex.ret ⟨hI, hJ, k0_0, k0_1⟩
    ·
      have c2 := icc_nle (m := (Int32.toInt (g 0 1))) (n := (Int32.toInt v1)) rfl rfl c2
      refine Ex.ck (by omega) (by omega) ?_
      refine Ex.lti (fun x3 x3e x3i => ?_)
      refine Ex.ck (by omega) (by omega) ?_
      have J118 : ∀ (v2 : Int32) (v3 : Int32) (g : Nat → Nat → Int32) (L : Nat → Nat → Int64), (0 ≤ (Int32.toInt v1) ∧ (Int32.toInt v1) ≤ 11) → (0 ≤ (Int32.toInt v3) ∧ (Int32.toInt v3) ≤ 1) → zI MT g → mJ g → g 0 18 = g0 0 18 → g 0 2 = g0 0 2 → Ex (fX12_works0_p118 fu k2 v1 v2 v3 g L) (fun (r : Unit) (g1 : Nat → Nat → Int32) (L1 : Nat → Nat → Int64) => zI MT g1 ∧ mJ g1 ∧ g1 0 18 = g0 0 18 ∧ g1 0 2 = g0 0 2) := by
        intro v2 v3 g L hb_v1 hb_v3 hI hJ k0_0 k0_1
        unfold fX12_works0_p118
        refine Ex.ck (by omega) (by omega) ?_
        refine Ex.sti (hI.updN rfl) (fun g4 g4e hI => ?_)
        have k0_0 : g4 0 18 = g0 0 18 := by rw [g4e]; exact k0_0
        have k0_1 : g4 0 2 = g0 0 2 := by rw [g4e]; exact k0_1
        have hJ : mJ g4 := by rw [g4e]; exact mJ.upd hJ rfl
        refine Ex.ck (by omega) (by omega) ?_
        refine Ex.sti (hI.upd rfl (by decide) (by decide)) (fun g5 g5e hI => ?_)
        have k0_0 : g5 0 18 = g0 0 18 := by rw [g5e]; exact k0_0
        have k0_1 : g5 0 2 = g0 0 2 := by rw [g5e]; exact k0_1
        have hJ : mJ g5 := by rw [g5e]; exact mJ.upd hJ rfl
        have lp135 : ∀ (v2 : Int32) (v3 : Int32) (v4 : Int32) (g : Nat → Nat → Int32) (L : Nat → Nat → Int64), (0 ≤ (Int32.toInt v1) ∧ (Int32.toInt v1) ≤ 11) → (0 ≤ (Int32.toInt v3) ∧ (Int32.toInt v3) ≤ 1) → (0 ≤ (Int32.toInt v4) ∧ (Int32.toInt v4) ≤ 6) → zI MT g → mJ g → g 0 18 = g0 0 18 → g 0 2 = g0 0 2 → Ex (fX12_works0_l135 fu k2 v1 v2 v3 v4 g L) (fun (r : Unit) (g1 : Nat → Nat → Int32) (L1 : Nat → Nat → Int64) => zI MT g1 ∧ mJ g1 ∧ g1 0 18 = g0 0 18 ∧ g1 0 2 = g0 0 2) := by
          intro v2 v3 v4 g L hb_v1 hb_v3 hb_v4 hI hJ k0_0 k0_1
          unfold fX12_works0_l135
          refine Ex.loop (fun v => ((0 ≤ (Int32.toInt v1) ∧ (Int32.toInt v1) ≤ 11)) ∧ ((0 ≤ (Int32.toInt v3) ∧ (Int32.toInt v3) ≤ 1)) ∧ ((0 ≤ (Int32.toInt (v.1)) ∧ (Int32.toInt (v.1)) ≤ 6)) ∧ (zI MT (v.2.1)) ∧ (mJ (v.2.1)) ∧ ((v.2.1) 0 18 = g0 0 18) ∧ ((v.2.1) 0 2 = g0 0 2)) (fun v => 7 - (Int32.toInt (v.1))) (by omega) (by show 7 - (Int32.toInt v4) < (fu : Int); omega) ⟨hb_v1, hb_v3, hb_v4, hI, hJ, k0_0, k0_1⟩ (fun k135 v hv ih135 => ?_)
          obtain ⟨v4, g, L⟩ := v
          obtain ⟨hb_v1, hb_v3, hb_v4, hI, hJ, k0_0, k0_1⟩ := hv
          have hb_v1 : (0 ≤ (Int32.toInt v1) ∧ (Int32.toInt v1) ≤ 11) := hb_v1
          have hb_v3 : (0 ≤ (Int32.toInt v3) ∧ (Int32.toInt v3) ≤ 1) := hb_v3
          have hb_v4 : (0 ≤ (Int32.toInt v4) ∧ (Int32.toInt v4) ≤ 6) := hb_v4
          have hI : zI MT g := hI
          have hJ : mJ g := hJ
          have k0_0 : g 0 18 = g0 0 18 := k0_0
          have k0_1 : g 0 2 = g0 0 2 := k0_1
          have ih135 : ∀ v' : Int32 × (Nat → Nat → Int32) × (Nat → Nat → Int64), (((0 ≤ (Int32.toInt v1) ∧ (Int32.toInt v1) ≤ 11)) ∧ ((0 ≤ (Int32.toInt v3) ∧ (Int32.toInt v3) ≤ 1)) ∧ ((0 ≤ (Int32.toInt (v'.1)) ∧ (Int32.toInt (v'.1)) ≤ 6)) ∧ (zI MT (v'.2.1)) ∧ (mJ (v'.2.1)) ∧ ((v'.2.1) 0 18 = g0 0 18) ∧ ((v'.2.1) 0 2 = g0 0 2)) → 7 - (Int32.toInt (v'.1)) < 7 - (Int32.toInt v4) → 0 < 7 - (Int32.toInt v4) → Ex (k135 v') (fun (r : Unit) (g1 : Nat → Nat → Int32) (L1 : Nat → Nat → Int64) => zI MT g1 ∧ mJ g1 ∧ g1 0 18 = g0 0 18 ∧ g1 0 2 = g0 0 2) := ih135
          show Ex (fX12_works0_s135 fu k2 v1 v2 v3 k135 v4 g L) (fun (r : Unit) (g1 : Nat → Nat → Int32) (L1 : Nat → Nat → Int64) => zI MT g1 ∧ mJ g1 ∧ g1 0 18 = g0 0 18 ∧ g1 0 2 = g0 0 2)
          unfold fX12_works0_s135
          refine Ex.ck (by omega) (by omega) ?_
          have b6 : 0 ≤ (Int32.toInt (g 8 (Int32.toNatClampNeg v1))) ∧ (Int32.toInt (g 8 (Int32.toNatClampNeg v1))) ≤ 6 := hI 8 _ 0 6 rfl
          have J199 : ∀ (v2 : Int32) (g : Nat → Nat → Int32) (L : Nat → Nat → Int64), (0 ≤ (Int32.toInt v1) ∧ (Int32.toInt v1) ≤ 11) → zI MT g → mJ g → g 0 18 = g0 0 18 → g 0 2 = g0 0 2 → Ex (fX12_works0_p199 fu k2 v1 v2 g L) (fun (r : Unit) (g1 : Nat → Nat → Int32) (L1 : Nat → Nat → Int64) => zI MT g1 ∧ mJ g1 ∧ g1 0 18 = g0 0 18 ∧ g1 0 2 = g0 0 2) := by
            intro v2 g L hb_v1 hI hJ k0_0 k0_1
            unfold fX12_works0_p199
            refine Ex.cb (sX12_runsOver fu hfu v1 g L hI hJ (by omega)) (fun x7 g8 L9 hq11 => ?_)
            obtain ⟨hI, hJ, kk0, kk1, rb_⟩ := hq11
            have b12 : 0 ≤ (Int32.toInt x7) ∧ (Int32.toInt x7) ≤ 180 := rb_
            have hI : zI MT g8 := hI
            have hJ : mJ g8 := hJ
            have k0_0 : g8 0 18 = g0 0 18 := kk0.trans k0_0
            have k0_1 : g8 0 2 = g0 0 2 := kk1.trans k0_1
            refine Ex.ck (by omega) (by omega) ?_
            refine Ex.sti (hI.updN rfl) (fun g13 g13e hI => ?_)
            have k0_0 : g13 0 18 = g0 0 18 := by rw [g13e]; exact k0_0
            have k0_1 : g13 0 2 = g0 0 2 := by rw [g13e]; exact k0_1
            have hJ : mJ g13 := by rw [g13e]; exact mJ.upd hJ rfl
            refine Ex.ck (by omega) (by omega) ?_
            generalize z14q : (v2 + (g13 3 (Int32.toNatClampNeg v1))) = z14
            refine Ex.ck (by omega) (by omega) ?_
            have J244 : ∀ (t0 : Int32) (g : Nat → Nat → Int32) (L : Nat → Nat → Int64), (0 ≤ (Int32.toInt v1) ∧ (Int32.toInt v1) ≤ 11) → zI MT g → mJ g → g 0 18 = g0 0 18 → g 0 2 = g0 0 2 → Ex (fX12_works0_p244 fu k2 v1 t0 g L) (fun (r : Unit) (g1 : Nat → Nat → Int32) (L1 : Nat → Nat → Int64) => zI MT g1 ∧ mJ g1 ∧ g1 0 18 = g0 0 18 ∧ g1 0 2 = g0 0 2) := by
              intro t0 g L hb_v1 hI hJ k0_0 k0_1
              unfold fX12_works0_p244
              refine Ex.ck (by omega) (by omega) ?_
              generalize z15q : (t0 + (g 33 (Int32.toNatClampNeg v1))) = z15
              refine Ex.ck (by omega) (by omega) ?_
              refine Ex.sti (hI.updN rfl) (fun g16 g16e hI => ?_)
              have k0_0 : g16 0 18 = g0 0 18 := by rw [g16e]; exact k0_0
              have k0_1 : g16 0 2 = g0 0 2 := by rw [g16e]; exact k0_1
              have hJ : mJ g16 := by rw [g16e]; exact mJ.upd hJ rfl
              generalize z17q : (v1 + 1) = z17
              have e18 : (Int32.toInt z17) = (Int32.toInt v1) + 1 := by rw [← z17q]; exact ic_addc rfl (by decide) (by omega) (by omega)
              exact ih2 (z17, g16, L) ⟨(show (0 ≤ (Int32.toInt z17) ∧ (Int32.toInt z17) ≤ 12) from by omega), hI, hJ, k0_0, k0_1⟩ (by show 13 - (Int32.toInt z17) < _; omega) (by omega)
            refine Ex.ite (fun c19 => ?_) (fun c19 => ?_)
            ·
              have c19 := icc_le (m := (Int32.toInt z14)) (n := (Int32.toInt (g13 2 (Int32.toNatClampNeg v1)))) rfl rfl c19
              refine Ex.ck (by omega) (by omega) ?_
              exact J244 (g13 2 (Int32.toNatClampNeg v1)) g13 L9 (by omega) hI hJ k0_0 k0_1
            ·
              have c19 := icc_nle (m := (Int32.toInt z14)) (n := (Int32.toInt (g13 2 (Int32.toNatClampNeg v1)))) rfl rfl c19
              refine Ex.ck (by omega) (by omega) ?_
              exact J244 z14 g13 L9 (by omega) hI hJ k0_0 k0_1
          refine Ex.ite (fun c20 => ?_) (fun c20 => ?_)
          ·
            have c20 := icc_le (m := (Int32.toInt (g 8 (Int32.toNatClampNeg v1)))) (n := (Int32.toInt v4)) rfl rfl c20
            exact J199 v2 g L (by omega) hI hJ k0_0 k0_1
          ·
            have c20 := icc_nle (m := (Int32.toInt (g 8 (Int32.toNatClampNeg v1)))) (n := (Int32.toInt v4)) rfl rfl c20
            refine Ex.ite (fun c21 => ?_) (fun c21 => ?_)
            ·
              have c21 := icc_eq (m := (Int32.toInt v3)) (n := 0) rfl (by decide) c21
              exact J199 v2 g L (by omega) hI hJ k0_0 k0_1
            ·
              have c21 := icc_neq (m := (Int32.toInt v3)) (n := 0) rfl (by decide) c21
              generalize z22q : (6 * v1) = z22
              have e23 : (Int32.toInt z22) = 6 * (Int32.toInt v1) := by rw [← z22q]; exact ic_mulc (by decide) rfl (by omega) (by omega)
              generalize z24q : (z22 + v4) = z24
              have e25 : (Int32.toInt z24) = (Int32.toInt z22) + (Int32.toInt v4) := by rw [← z24q]; exact ic_addc rfl rfl (by omega) (by omega)
              refine Ex.ck (by omega) (by omega) ?_
              have b26 : 0 ≤ (Int32.toInt (g 9 (Int32.toNatClampNeg z24))) ∧ (Int32.toInt (g 9 (Int32.toNatClampNeg z24))) ≤ 11 := hI 9 _ 0 11 rfl
              refine Ex.lti (fun x27 x27e x27i => ?_)
              refine Ex.ck (by omega) (by omega) ?_
              have b28 : (-1) ≤ (Int32.toInt (g 34 (Int32.toNatClampNeg v1))) ∧ (Int32.toInt (g 34 (Int32.toNatClampNeg v1))) ≤ 11 := hI 34 _ (-1) 11 rfl
              have J193 : ∀ (g : Nat → Nat → Int32) (L : Nat → Nat → Int64), (0 ≤ (Int32.toInt v1) ∧ (Int32.toInt v1) ≤ 11) → (1 ≤ (Int32.toInt v3) ∧ (Int32.toInt v3) ≤ 1) → (0 ≤ (Int32.toInt v4) ∧ (Int32.toInt v4) ≤ 5) → zI MT g → mJ g → g 0 18 = g0 0 18 → g 0 2 = g0 0 2 → Ex (fX12_works0_p193 fu k2 k135 v1 v2 v3 v4 g L) (fun (r : Unit) (g1 : Nat → Nat → Int32) (L1 : Nat → Nat → Int64) => zI MT g1 ∧ mJ g1 ∧ g1 0 18 = g0 0 18 ∧ g1 0 2 = g0 0 2) := by
                intro g L hb_v1 hb_v3 hb_v4 hI hJ k0_0 k0_1
                unfold fX12_works0_p193
                generalize z29q : (v4 + 1) = z29
                have e30 : (Int32.toInt z29) = (Int32.toInt v4) + 1 := by rw [← z29q]; exact ic_addc rfl (by decide) (by omega) (by omega)
                exact ih135 (z29, g, L) ⟨(show (0 ≤ (Int32.toInt v1) ∧ (Int32.toInt v1) ≤ 11) from by omega), (show (0 ≤ (Int32.toInt v3) ∧ (Int32.toInt v3) ≤ 1) from by omega), (show (0 ≤ (Int32.toInt z29) ∧ (Int32.toInt z29) ≤ 6) from by omega), hI, hJ, k0_0, k0_1⟩ (by show 7 - (Int32.toInt z29) < _; omega) (by omega)
              refine Ex.ite (fun c31 => ?_) (fun c31 => ?_)
              ·
                have c31 := icc_eq (m := (Int32.toInt (g 34 (Int32.toNatClampNeg v1)))) (n := (-1)) rfl (by decide) c31
                refine Ex.cb (sX12_comes fu hfu x27 v1 g L hI hJ (by omega) (by omega)) (fun x32 g33 L34 hq36 => ?_)
                obtain ⟨hI, hJ, kk0, kk1⟩ := hq36
                have hI : zI MT g33 := hI
                have hJ : mJ g33 := hJ
                have k0_0 : g33 0 18 = g0 0 18 := kk0.trans k0_0
                have k0_1 : g33 0 2 = g0 0 2 := kk1.trans k0_1
                refine Ex.ite (fun c37 => ?_) (fun c37 => ?_)
                ·
                  have c37 := icc_eq (m := (Int32.toInt x32)) (n := (Int32.toInt v2)) rfl rfl c37
                  refine Ex.ck (by omega) (by omega) ?_
                  refine Ex.sti (hI.upd rfl (by omega) (by omega)) (fun g38 g38e hI => ?_)
                  have k0_0 : g38 0 18 = g0 0 18 := by rw [g38e]; exact k0_0
                  have k0_1 : g38 0 2 = g0 0 2 := by rw [g38e]; exact k0_1
                  have hJ : mJ g38 := by rw [g38e]; exact mJ.upd hJ rfl
                  exact J193 g38 L34 (by omega) (by omega) (by omega) hI hJ k0_0 k0_1
                ·
                  have c37 := icc_neq (m := (Int32.toInt x32)) (n := (Int32.toInt v2)) rfl rfl c37
                  exact J193 g33 L34 (by omega) (by omega) (by omega) hI hJ k0_0 k0_1
              ·
                have c31 := icc_neq (m := (Int32.toInt (g 34 (Int32.toNatClampNeg v1)))) (n := (-1)) rfl (by decide) c31
                exact J193 g L (by omega) (by omega) (by omega) hI hJ k0_0 k0_1
        exact lp135 v2 v3 0 g5 L (by omega) (by omega) (by decide) hI hJ k0_0 k0_1
      refine Ex.ite (fun c39 => ?_) (fun c39 => ?_)
      ·
        have c39 := icc_eq (m := (Int32.toInt (g 5 (Int32.toNatClampNeg v1)))) (n := 2) rfl (by decide) c39
        exact J118 x3 0 g L (by omega) (by decide) hI hJ k0_0 k0_1
      ·
        have c39 := icc_neq (m := (Int32.toInt (g 5 (Int32.toNatClampNeg v1)))) (n := 2) rfl (by decide) c39
        refine Ex.ck (by omega) (by omega) ?_
        have J55 : ∀ (v2 : Int32) (t0 : Int32) (t1 : Int32) (g : Nat → Nat → Int32) (L : Nat → Nat → Int64), (0 ≤ (Int32.toInt v1) ∧ (Int32.toInt v1) ≤ 11) → (1 ≤ (Int32.toInt t0) ∧ (Int32.toInt t0) ≤ 6) → (0 ≤ (Int32.toInt t1) ∧ (Int32.toInt t1) ≤ 11) → zI MT g → mJ g → g 0 18 = g0 0 18 → g 0 2 = g0 0 2 → Ex (fX12_works0_p55 fu k2 v1 v2 t0 t1 g L) (fun (r : Unit) (g1 : Nat → Nat → Int32) (L1 : Nat → Nat → Int64) => zI MT g1 ∧ mJ g1 ∧ g1 0 18 = g0 0 18 ∧ g1 0 2 = g0 0 2) := by
          intro v2 t0 t1 g L hb_v1 hb_t0 hb_t1 hI hJ k0_0 k0_1
          unfold fX12_works0_p55
          refine Ex.cb (sX12_thereBy fu hfu t1 t0 g L hI hJ (by omega) (by omega)) (fun x40 g41 L42 hq44 => ?_)
          obtain ⟨hI, hJ, kk0, kk1⟩ := hq44
          have hI : zI MT g41 := hI
          have hJ : mJ g41 := hJ
          have k0_0 : g41 0 18 = g0 0 18 := kk0.trans k0_0
          have k0_1 : g41 0 2 = g0 0 2 := kk1.trans k0_1
          refine Ex.ck (by omega) (by omega) ?_
          generalize z45q : (36 + v1) = z45
          have e46 : (Int32.toInt z45) = 36 + (Int32.toInt v1) := by rw [← z45q]; exact ic_addc (by decide) rfl (by omega) (by omega)
          refine Ex.ck (by omega) (by omega) ?_
          generalize z47q : ((g41 1 (Int32.toNatClampNeg v1)) + (g41 12 (Int32.toNatClampNeg z45))) = z47
          refine Ex.lti (fun x48 x48e x48i => ?_)
          have J96 : ∀ (v2 : Int32) (v4 : Int32) (v5 : Int32) (t0 : Int32) (g : Nat → Nat → Int32) (L : Nat → Nat → Int64), (0 ≤ (Int32.toInt v1) ∧ (Int32.toInt v1) ≤ 11) → (0 ≤ (Int32.toInt t0) ∧ (Int32.toInt t0) ≤ 1) → zI MT g → mJ g → g 0 18 = g0 0 18 → g 0 2 = g0 0 2 → Ex (fX12_works0_p96 fu k2 v1 v2 v4 v5 t0 g L) (fun (r : Unit) (g1 : Nat → Nat → Int32) (L1 : Nat → Nat → Int64) => zI MT g1 ∧ mJ g1 ∧ g1 0 18 = g0 0 18 ∧ g1 0 2 = g0 0 2) := by
            intro v2 v4 v5 t0 g L hb_v1 hb_t0 hI hJ k0_0 k0_1
            unfold fX12_works0_p96
            refine Ex.ite (fun c49 => ?_) (fun c49 => ?_)
            ·
              have c49 := icc_le (m := (Int32.toInt v4)) (n := (Int32.toInt v2)) rfl rfl c49
              exact J118 v2 t0 g L (by omega) (by omega) hI hJ k0_0 k0_1
            ·
              have c49 := icc_nle (m := (Int32.toInt v4)) (n := (Int32.toInt v2)) rfl rfl c49
              have J117 : ∀ (v3 : Int32) (t0 : Int32) (g : Nat → Nat → Int32) (L : Nat → Nat → Int64), (0 ≤ (Int32.toInt v1) ∧ (Int32.toInt v1) ≤ 11) → (0 ≤ (Int32.toInt v3) ∧ (Int32.toInt v3) ≤ 1) → zI MT g → mJ g → g 0 18 = g0 0 18 → g 0 2 = g0 0 2 → Ex (fX12_works0_p117 fu k2 v1 v3 t0 g L) (fun (r : Unit) (g1 : Nat → Nat → Int32) (L1 : Nat → Nat → Int64) => zI MT g1 ∧ mJ g1 ∧ g1 0 18 = g0 0 18 ∧ g1 0 2 = g0 0 2) := by
                intro v3 t0 g L hb_v1 hb_v3 hI hJ k0_0 k0_1
                unfold fX12_works0_p117
                exact J118 t0 v3 g L (by omega) (by omega) hI hJ k0_0 k0_1
              refine Ex.ite (fun c50 => ?_) (fun c50 => ?_)
              ·
                have c50 := icc_le (m := (Int32.toInt v5)) (n := (Int32.toInt v4)) rfl rfl c50
                exact J117 t0 v5 g L (by omega) (by omega) hI hJ k0_0 k0_1
              ·
                have c50 := icc_nle (m := (Int32.toInt v5)) (n := (Int32.toInt v4)) rfl rfl c50
                exact J117 t0 v4 g L (by omega) (by omega) hI hJ k0_0 k0_1
          have J95 : ∀ (v2 : Int32) (v4 : Int32) (v5 : Int32) (g : Nat → Nat → Int32) (L : Nat → Nat → Int64), (0 ≤ (Int32.toInt v1) ∧ (Int32.toInt v1) ≤ 11) → zI MT g → mJ g → g 0 18 = g0 0 18 → g 0 2 = g0 0 2 → Ex (fX12_works0_p95 fu k2 v1 v2 v4 v5 g L) (fun (r : Unit) (g1 : Nat → Nat → Int32) (L1 : Nat → Nat → Int64) => zI MT g1 ∧ mJ g1 ∧ g1 0 18 = g0 0 18 ∧ g1 0 2 = g0 0 2) := by
            intro v2 v4 v5 g L hb_v1 hI hJ k0_0 k0_1
            unfold fX12_works0_p95
            exact J96 v2 v4 v5 0 g L (by omega) (by decide) hI hJ k0_0 k0_1
          refine Ex.ite (fun c51 => ?_) (fun c51 => ?_)
          ·
            have c51 := icc_le (m := (Int32.toInt x40)) (n := (Int32.toInt v2)) rfl rfl c51
            exact J95 v2 x40 x48 g41 L42 (by omega) hI hJ k0_0 k0_1
          ·
            have c51 := icc_nle (m := (Int32.toInt x40)) (n := (Int32.toInt v2)) rfl rfl c51
            refine Ex.ite (fun c52 => ?_) (fun c52 => ?_)
            ·
              have c52 := icc_lt (m := (Int32.toInt x48)) (n := (Int32.toInt x40)) rfl rfl c52
              exact J95 v2 x40 x48 g41 L42 (by omega) hI hJ k0_0 k0_1
            ·
              have c52 := icc_nlt (m := (Int32.toInt x48)) (n := (Int32.toInt x40)) rfl rfl c52
              exact J96 v2 x40 x48 1 g41 L42 (by omega) (by decide) hI hJ k0_0 k0_1
        refine Ex.ite (fun c53 => ?_) (fun c53 => ?_)
        ·
          have c53 := icc_eq (m := (Int32.toInt (g 5 (Int32.toNatClampNeg v1)))) (n := 0) rfl (by decide) c53
          refine Ex.ck (by omega) (by omega) ?_
          have b54 : 0 ≤ (Int32.toInt (g 8 (Int32.toNatClampNeg v1))) ∧ (Int32.toInt (g 8 (Int32.toNatClampNeg v1))) ≤ 6 := hI 8 _ 0 6 rfl
          have hm_ := hJ.les (i := v1) (by omega) (by omega)
          have hm_ : 1 ≤ (Int32.toInt (g 8 (Int32.toNatClampNeg v1))) := hm_.1 (by omega)
          exact J55 x3 (g 8 (Int32.toNatClampNeg v1)) v1 g L (by omega) (by omega) (by omega) hI hJ k0_0 k0_1
        ·
          have c53 := icc_neq (m := (Int32.toInt (g 5 (Int32.toNatClampNeg v1)))) (n := 0) rfl (by decide) c53
          refine Ex.ck (by omega) (by omega) ?_
          have hm_ := hJ.les (i := v1) (by omega) (by omega)
          have hm_ : 1 ≤ (Int32.toInt (g 6 (Int32.toNatClampNeg v1))) ∧ (Int32.toInt (g 6 (Int32.toNatClampNeg v1))) ≤ 6 := hm_.2 (by omega) (by omega)
          exact J55 x3 (g 6 (Int32.toNatClampNeg v1)) v1 g L (by omega) (by omega) (by omega) hI hJ k0_0 k0_1
  exact lp2 0 g0 L0 (by decide) hI hJ k0_0 k0_1
set_option maxHeartbeats 4000000 in
set_option maxRecDepth 100000 in
theorem sX12_lost (fu : Nat) (hfu : 1180591620717411303424 ≤ fu) (g0 : Nat → Nat → Int32) (L0 : Nat → Nat → Int64) (hI : zI MT g0) (hJ : mJ g0) : Ex (fX12_lost fu g0 L0) (fun (r : Int32) (g1 : Nat → Nat → Int32) (L1 : Nat → Nat → Int64) => zI MT g1 ∧ mJ g1 ∧ g1 0 18 = g0 0 18 ∧ g1 0 2 = g0 0 2) := by
  have k0_0 : g0 0 18 = g0 0 18 := rfl
  have k0_1 : g0 0 2 = g0 0 2 := rfl
  unfold fX12_lost
  refine Ex.cb (sX12_works0 fu hfu g0 L0 hI hJ) (fun x1 g2 L3 hq5 => ?_)
  obtain ⟨hI, hJ, kk0, kk1⟩ := hq5
  have hI : zI MT g2 := hI
  have hJ : mJ g2 := hJ
  have k0_0 : g2 0 18 = g0 0 18 := kk0.trans k0_0
  have k0_1 : g2 0 2 = g0 0 2 := kk1.trans k0_1
  have lp8 : ∀ (v1 : Int32) (v2 : Int32) (g : Nat → Nat → Int32) (L : Nat → Nat → Int64), (0 ≤ (Int32.toInt v2) ∧ (Int32.toInt v2) ≤ 12) → zI MT g → mJ g → g 0 18 = g0 0 18 → g 0 2 = g0 0 2 → Ex (fX12_lost_l8 fu v1 v2 g L) (fun (r : Int32) (g1 : Nat → Nat → Int32) (L1 : Nat → Nat → Int64) => zI MT g1 ∧ mJ g1 ∧ g1 0 18 = g0 0 18 ∧ g1 0 2 = g0 0 2) := by
    intro v1 v2 g L hb_v2 hI hJ k0_0 k0_1
    unfold fX12_lost_l8
    refine Ex.loop (fun v => ((0 ≤ (Int32.toInt (v.2.1)) ∧ (Int32.toInt (v.2.1)) ≤ 12)) ∧ (zI MT (v.2.2.1)) ∧ (mJ (v.2.2.1)) ∧ ((v.2.2.1) 0 18 = g0 0 18) ∧ ((v.2.2.1) 0 2 = g0 0 2)) (fun v => 13 - (Int32.toInt (v.2.1))) (by omega) (by show 13 - (Int32.toInt v2) < (fu : Int); omega) ⟨hb_v2, hI, hJ, k0_0, k0_1⟩ (fun k8 v hv ih8 => ?_)
    obtain ⟨v1, v2, g, L⟩ := v
    obtain ⟨hb_v2, hI, hJ, k0_0, k0_1⟩ := hv
    have hb_v2 : (0 ≤ (Int32.toInt v2) ∧ (Int32.toInt v2) ≤ 12) := hb_v2
    have hI : zI MT g := hI
    have hJ : mJ g := hJ
    have k0_0 : g 0 18 = g0 0 18 := k0_0
    have k0_1 : g 0 2 = g0 0 2 := k0_1
    have ih8 : ∀ v' : Int32 × Int32 × (Nat → Nat → Int32) × (Nat → Nat → Int64), (((0 ≤ (Int32.toInt (v'.2.1)) ∧ (Int32.toInt (v'.2.1)) ≤ 12)) ∧ (zI MT (v'.2.2.1)) ∧ (mJ (v'.2.2.1)) ∧ ((v'.2.2.1) 0 18 = g0 0 18) ∧ ((v'.2.2.1) 0 2 = g0 0 2)) → 13 - (Int32.toInt (v'.2.1)) < 13 - (Int32.toInt v2) → 0 < 13 - (Int32.toInt v2) → Ex (k8 v') (fun (r : Int32) (g1 : Nat → Nat → Int32) (L1 : Nat → Nat → Int64) => zI MT g1 ∧ mJ g1 ∧ g1 0 18 = g0 0 18 ∧ g1 0 2 = g0 0 2) := ih8
    show Ex (fX12_lost_s8 fu k8 v1 v2 g L) (fun (r : Int32) (g1 : Nat → Nat → Int32) (L1 : Nat → Nat → Int64) => zI MT g1 ∧ mJ g1 ∧ g1 0 18 = g0 0 18 ∧ g1 0 2 = g0 0 2)
    unfold fX12_lost_s8
    have b6 : 0 ≤ (Int32.toInt (g 0 1)) ∧ (Int32.toInt (g 0 1)) ≤ 12 := hI 0 1 0 12 rfl
    refine Ex.ite (fun c7 => ?_) (fun c7 => ?_)
    ·
      have c7 := icc_le (m := (Int32.toInt (g 0 1))) (n := (Int32.toInt v2)) rfl rfl c7
      exact Ex.ret ⟨hI, hJ, k0_0, k0_1⟩
    ·
      have c7 := icc_nle (m := (Int32.toInt (g 0 1))) (n := (Int32.toInt v2)) rfl rfl c7
      refine Ex.ck (by omega) (by omega) ?_
      refine Ex.cb (sX12_late fu hfu v2 g L hI hJ (by omega)) (fun x8 g9 L10 hq12 => ?_)
      obtain ⟨hI, hJ, kk0, kk1⟩ := hq12
      have hI : zI MT g9 := hI
      have hJ : mJ g9 := hJ
      have k0_0 : g9 0 18 = g0 0 18 := kk0.trans k0_0
      have k0_1 : g9 0 2 = g0 0 2 := kk1.trans k0_1
      generalize z13q : ((g 4 (Int32.toNatClampNeg v2)) * x8) = z13
      generalize z14q : (v1 + z13) = z14
      refine Ex.lti (fun x15 x15e x15i => ?_)
      generalize z16q : (v2 + 1) = z16
      have e17 : (Int32.toInt z16) = (Int32.toInt v2) + 1 := by rw [← z16q]; exact ic_addc rfl (by decide) (by omega) (by omega)
      exact ih8 (x15, z16, g9, L10) ⟨(show (0 ≤ (Int32.toInt z16) ∧ (Int32.toInt z16) ≤ 12) from by omega), hI, hJ, k0_0, k0_1⟩ (by show 13 - (Int32.toInt z16) < _; omega) (by omega)
  exact lp8 0 0 g2 L3 (by decide) hI hJ k0_0 k0_1
set_option maxHeartbeats 4000000 in
set_option maxRecDepth 100000 in
theorem sX12_lates (fu : Nat) (hfu : 1180591620717411303424 ≤ fu) (g0 : Nat → Nat → Int32) (L0 : Nat → Nat → Int64) (hI : zI MT g0) (hJ : mJ g0) : Ex (fX12_lates fu g0 L0) (fun (r : Int32) (g1 : Nat → Nat → Int32) (L1 : Nat → Nat → Int64) => zI MT g1 ∧ mJ g1 ∧ g1 0 18 = g0 0 18 ∧ g1 0 2 = g0 0 2) := by
  have k0_0 : g0 0 18 = g0 0 18 := rfl
  have k0_1 : g0 0 2 = g0 0 2 := rfl
  unfold fX12_lates
  have lp4 : ∀ (v1 : Int32) (v2 : Int32) (g : Nat → Nat → Int32) (L : Nat → Nat → Int64), (0 ≤ (Int32.toInt v2) ∧ (Int32.toInt v2) ≤ 12) → zI MT g → mJ g → g 0 18 = g0 0 18 → g 0 2 = g0 0 2 → Ex (fX12_lates_l4 fu v1 v2 g L) (fun (r : Int32) (g1 : Nat → Nat → Int32) (L1 : Nat → Nat → Int64) => zI MT g1 ∧ mJ g1 ∧ g1 0 18 = g0 0 18 ∧ g1 0 2 = g0 0 2) := by
    intro v1 v2 g L hb_v2 hI hJ k0_0 k0_1
    unfold fX12_lates_l4
    refine Ex.loop (fun v => ((0 ≤ (Int32.toInt (v.2.1)) ∧ (Int32.toInt (v.2.1)) ≤ 12)) ∧ (zI MT (v.2.2.1)) ∧ (mJ (v.2.2.1)) ∧ ((v.2.2.1) 0 18 = g0 0 18) ∧ ((v.2.2.1) 0 2 = g0 0 2)) (fun v => 13 - (Int32.toInt (v.2.1))) (by omega) (by show 13 - (Int32.toInt v2) < (fu : Int); omega) ⟨hb_v2, hI, hJ, k0_0, k0_1⟩ (fun k4 v hv ih4 => ?_)
    obtain ⟨v1, v2, g, L⟩ := v
    obtain ⟨hb_v2, hI, hJ, k0_0, k0_1⟩ := hv
    have hb_v2 : (0 ≤ (Int32.toInt v2) ∧ (Int32.toInt v2) ≤ 12) := hb_v2
    have hI : zI MT g := hI
    have hJ : mJ g := hJ
    have k0_0 : g 0 18 = g0 0 18 := k0_0
    have k0_1 : g 0 2 = g0 0 2 := k0_1
    have ih4 : ∀ v' : Int32 × Int32 × (Nat → Nat → Int32) × (Nat → Nat → Int64), (((0 ≤ (Int32.toInt (v'.2.1)) ∧ (Int32.toInt (v'.2.1)) ≤ 12)) ∧ (zI MT (v'.2.2.1)) ∧ (mJ (v'.2.2.1)) ∧ ((v'.2.2.1) 0 18 = g0 0 18) ∧ ((v'.2.2.1) 0 2 = g0 0 2)) → 13 - (Int32.toInt (v'.2.1)) < 13 - (Int32.toInt v2) → 0 < 13 - (Int32.toInt v2) → Ex (k4 v') (fun (r : Int32) (g1 : Nat → Nat → Int32) (L1 : Nat → Nat → Int64) => zI MT g1 ∧ mJ g1 ∧ g1 0 18 = g0 0 18 ∧ g1 0 2 = g0 0 2) := ih4
    show Ex (fX12_lates_s4 fu k4 v1 v2 g L) (fun (r : Int32) (g1 : Nat → Nat → Int32) (L1 : Nat → Nat → Int64) => zI MT g1 ∧ mJ g1 ∧ g1 0 18 = g0 0 18 ∧ g1 0 2 = g0 0 2)
    unfold fX12_lates_s4
    have b1 : 0 ≤ (Int32.toInt (g 0 1)) ∧ (Int32.toInt (g 0 1)) ≤ 12 := hI 0 1 0 12 rfl
    refine Ex.ite (fun c2 => ?_) (fun c2 => ?_)
    ·
      have c2 := icc_le (m := (Int32.toInt (g 0 1))) (n := (Int32.toInt v2)) rfl rfl c2
      exact Ex.ret ⟨hI, hJ, k0_0, k0_1⟩
    ·
      have c2 := icc_nle (m := (Int32.toInt (g 0 1))) (n := (Int32.toInt v2)) rfl rfl c2
      refine Ex.cb (sX12_late fu hfu v2 g L hI hJ (by omega)) (fun x3 g4 L5 hq7 => ?_)
      obtain ⟨hI, hJ, kk0, kk1⟩ := hq7
      have hI : zI MT g4 := hI
      have hJ : mJ g4 := hJ
      have k0_0 : g4 0 18 = g0 0 18 := kk0.trans k0_0
      have k0_1 : g4 0 2 = g0 0 2 := kk1.trans k0_1
      generalize z8q : (v1 + x3) = z8
      refine Ex.lti (fun x9 x9e x9i => ?_)
      generalize z10q : (v2 + 1) = z10
      have e11 : (Int32.toInt z10) = (Int32.toInt v2) + 1 := by rw [← z10q]; exact ic_addc rfl (by decide) (by omega) (by omega)
      exact ih4 (x9, z10, g4, L5) ⟨(show (0 ≤ (Int32.toInt z10) ∧ (Int32.toInt z10) ≤ 12) from by omega), hI, hJ, k0_0, k0_1⟩ (by show 13 - (Int32.toInt z10) < _; omega) (by omega)
  exact lp4 0 0 g0 L0 (by decide) hI hJ k0_0 k0_1
end
