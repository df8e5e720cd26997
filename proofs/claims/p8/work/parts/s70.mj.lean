/-! ===== what holds of the reference beside ranges ===== -/
def mSup (k j : Nat) : Bool := match k with
  | 0 => (match j with | 1 => true | 2 => true | 52 => true | 62 => true | 73 => true | 81 => true | 82 => true | 83 => true | 84 => true | _ => false)
  | 5 => true | 6 => true | 8 => true | 10 => true | 11 => true | 36 => true | 43 => true | 49 => true | 50 => true
  | _ => false
/-- code from place k on, with so many on the pile, comes to its stop -/
def wf (c : Nat → Int32) : Nat → Nat → Nat → Prop
  | 0, _, _ => False
  | n + 1, k, m => k < 1900 ∧ ((c k).toInt = 0 ∨ ((c k).toInt = 1 ∧ k + 1 < 1900 ∧ m < 950 ∧ wf c n (k + 2) (m + 1)) ∨ ((c k).toInt = 2 ∧ k + 1 < 1900 ∧ m < 950 ∧ 0 ≤ (c (k + 1)).toInt ∧ (c (k + 1)).toInt ≤ 5 ∧ wf c n (k + 2) (m + 1)) ∨ ((c k).toInt = 3 ∧ 1 ≤ m ∧ m ≤ 950 ∧ wf c n (k + 1) m) ∨ ((c k).toInt ≠ 0 ∧ (c k).toInt ≠ 1 ∧ (c k).toInt ≠ 2 ∧ (c k).toInt ≠ 3 ∧ 2 ≤ m ∧ m ≤ 950 ∧ wf c n (k + 1) (m - 1)))
def mLes (les : Int32) (kind some waits : Nat → Int32) : Prop := ∀ i : Nat, (i : Int) < les.toInt → ((kind i).toInt = 0 → 1 ≤ (waits i).toInt) ∧ ((kind i).toInt ≠ 0 → (kind i).toInt ≠ 2 → 1 ≤ (some i).toInt ∧ (some i).toInt ≤ 6)
def mAct (rules acts : Int32) (act : Nat → Int32) : Prop := ∀ k : Nat, (k : Int) < acts.toInt → 0 ≤ (act (2 * k)).toInt ∧ (act (2 * k)).toInt ≤ 48 ∧ ((act (2 * k)).toInt = 48 → -1 ≤ (act (2 * k + 1)).toInt ∧ (act (2 * k + 1)).toInt < rules.toInt)
def mSee (many : Int32) (seen : Nat → Int32) : Prop := ∀ k : Nat, (k : Int) < many.toInt → 0 ≤ (seen (2 * k)).toInt ∧ (seen (2 * k)).toInt ≤ 11
def mCod (rules : Int32) (ruleAt code : Nat → Int32) : Prop := ∀ r : Nat, (r : Int) < rules.toInt → 0 ≤ (ruleAt r).toInt ∧ ∃ n : Nat, n ≤ 2000 ∧ wf code n (ruleAt r).toNatClampNeg 0
def mJ (g : Nat → Nat → Int32) : Prop := mLes (g 0 1) (g 5) (g 6) (g 8) ∧ (g 0 52).toInt < (g 0 2).toInt ∧ mAct (g 0 2) (g 0 62) (g 36) ∧ mSee (g 0 73) (g 43) ∧ mCod (g 0 2) (g 10) (g 11) ∧ ((g 0 81).toInt ≠ 0 → (g 0 82).toInt < (g 0 2).toInt ∧ mAct (g 0 2) (g 0 83) (g 49) ∧ mSee (g 0 84) (g 50))
theorem mJ.congr {g g' : Nat → Nat → Int32} (h : ∀ k j, mSup k j = true → g' k j = g k j) (hJ : mJ g) : mJ g' := by
  have f : ∀ k, (∀ j, mSup k j = true) → g' k = g k := fun k hk => funext (fun j => h k j (hk j))
  unfold mJ
  rw [h 0 1 rfl, h 0 2 rfl, h 0 52 rfl, h 0 62 rfl, h 0 73 rfl, h 0 81 rfl, h 0 82 rfl, h 0 83 rfl, h 0 84 rfl, f 5 (fun _ => rfl), f 6 (fun _ => rfl), f 8 (fun _ => rfl), f 10 (fun _ => rfl), f 11 (fun _ => rfl), f 36 (fun _ => rfl), f 43 (fun _ => rfl), f 49 (fun _ => rfl), f 50 (fun _ => rfl)]
  exact hJ
theorem mJ.upd {g : Nat → Nat → Int32} {k j : Nat} {x : Int32} (hJ : mJ g) (hs : mSup k j = false) : mJ (upd2 g k j x) := by
  refine hJ.congr (fun k' j' h' => ?_)
  by_cases hk : k' = k
  · subst hk
    by_cases hj : j' = j
    · subst hj; rw [hs] at h'; exact nomatch h'
    · exact upd2_nj hj
  · exact upd2_nk hk
theorem nc (x : Int32) : x.toNatClampNeg = x.toInt.toNat := rfl
theorem mJ.les {g : Nat → Nat → Int32} (hJ : mJ g) {i : Int32} (h1 : 0 ≤ i.toInt) (h2 : i.toInt < (g 0 1).toInt) : ((g 5 i.toNatClampNeg).toInt = 0 → 1 ≤ (g 8 i.toNatClampNeg).toInt) ∧ ((g 5 i.toNatClampNeg).toInt ≠ 0 → (g 5 i.toNatClampNeg).toInt ≠ 2 → 1 ≤ (g 6 i.toNatClampNeg).toInt ∧ (g 6 i.toNatClampNeg).toInt ≤ 6) :=
  hJ.1 i.toNatClampNeg (by rw [nc]; omega)
theorem mJ.code {g : Nat → Nat → Int32} (hJ : mJ g) (h1 : 0 ≤ (g 0 52).toInt) : 0 ≤ (g 10 (g 0 52).toNatClampNeg).toInt ∧ ∃ n : Nat, n ≤ 2000 ∧ wf (g 11) n (g 10 (g 0 52).toNatClampNeg).toNatClampNeg 0 :=
  hJ.2.2.2.2.1 (g 0 52).toNatClampNeg (by have := hJ.2.1; rw [nc]; omega)
theorem mJ.see {g : Nat → Nat → Int32} (hJ : mJ g) {k : Int32} (h1 : 0 ≤ k.toInt) (h2 : k.toInt < (g 0 73).toInt) {j : Int32} (hj : j.toInt = 2 * k.toInt) : 0 ≤ (g 43 j.toNatClampNeg).toInt ∧ (g 43 j.toNatClampNeg).toInt ≤ 11 := by
  have h := hJ.2.2.2.1 k.toNatClampNeg (by rw [nc]; omega)
  have e : 2 * k.toNatClampNeg = j.toNatClampNeg := by rw [nc, nc]; omega
  rw [e] at h; exact h
theorem mJ.force {g : Nat → Nat → Int32} {x : Int32} (hJ : mJ g) (h : x.toInt < (g 0 2).toInt) : mJ (upd2 g 0 52 x) := ⟨hJ.1, h, hJ.2.2⟩
theorem mJ.unsee {g : Nat → Nat → Int32} {x : Int32} (hJ : mJ g) (h : x.toInt = 0) : mJ (upd2 g 0 73 x) := ⟨hJ.1, hJ.2.1, hJ.2.2.1, fun k hk => absurd hk (by show ¬ (k : Int) < x.toInt; omega), hJ.2.2.2.2.1, hJ.2.2.2.2.2⟩
set_option maxHeartbeats 4000000 in
theorem uX12_works (fu : Nat) (p1 p2 p3 : Int32) (g0 : Nat → Nat → Int32) (L0 : Nat → Nat → Int64) : Ex (fX12_works fu p1 p2 p3 g0 L0) (fun (r : Int32) g1 L1 => g1 = g0) := by
  have e : ∀ (x : Int32), Ex (some (x, (g0, L0))) (fun (r : Int32) g1 L1 => g1 = g0) := fun x => ⟨x, g0, L0, rfl, rfl⟩
  unfold fX12_works fX12_works_p56 fX12_works_p66 fX12_works_p57 fX12_works_p71 fX12_works_p82 fX12_works_p93 fX12_works_p117
  have hd : ¬ p3 = 0 → Ex (cnz p3 (some (p2 / p3, (g0, L0)))) (fun (r : Int32) g1 L1 => g1 = g0) := fun h => Ex.cnz h (e _)
  repeat' (apply Ex.ite <;> intro)
  all_goals first | exact e _ | contradiction
set_option maxHeartbeats 4000000 in
theorem sX12_reckons (fu : Nat) (hfu : 1180591620717411303424 ≤ fu) (p1 : Int32) (g0 : Nat → Nat → Int32) (L0 : Nat → Nat → Int64) (hI : zI MT g0) (hJ : mJ g0) (hp : 0 ≤ p1.toInt ∧ ∃ n : Nat, n ≤ 2000 ∧ wf (g0 11) n p1.toNatClampNeg 0) : Ex (fX12_reckons fu p1 g0 L0) (fun (r : Int32) g1 L1 => zI MT g1 ∧ mJ g1 ∧ g1 0 18 = g0 0 18 ∧ g1 0 2 = g0 0 2) := by
  have key : ∀ (n fuel : Nat) (v2 v3 : Int32) (g : Nat → Nat → Int32) (L : Nat → Nat → Int64), n < fuel → 0 ≤ v2.toInt → 0 ≤ v3.toInt → wf (g 11) n v3.toNatClampNeg v2.toNatClampNeg → zI MT g → mJ g → g 0 18 = g0 0 18 ∧ g 0 2 = g0 0 2 → Ex (whileK (fun k v => fX12_reckons_s4 fu k v.1 v.2.1 v.2.2.1 v.2.2.2) fuel (v2, v3, g, L)) (fun (r : Int32) g1 L1 => zI MT g1 ∧ mJ g1 ∧ g1 0 18 = g0 0 18 ∧ g1 0 2 = g0 0 2) := by
    intro n
    induction n with
    | zero => intro fuel v2 v3 g L _ _ _ h; exact h.elim
    | succ n ih =>
      intro fuel v2 v3 g L hf h2 h3 hw hI hJ hk
      obtain ⟨f, rfl⟩ : ∃ f, fuel = f + 1 := ⟨fuel - 1, by omega⟩
      obtain ⟨hk1, hw⟩ := hw
      have e2 := nc v2
      have e3 := nc v3
      have hr2 := ic_rg v2
      show Ex (fX12_reckons_s4 fu (whileK (fun k v => fX12_reckons_s4 fu k v.1 v.2.1 v.2.2.1 v.2.2.2) f) v2 v3 g L) _
      generalize hkk : whileK (fun k v => fX12_reckons_s4 fu k v.1 v.2.1 v.2.2.1 v.2.2.2) f = kk
      have ih : ∀ (v2 v3 : Int32) (g : Nat → Nat → Int32) (L : Nat → Nat → Int64), 0 ≤ v2.toInt → 0 ≤ v3.toInt → wf (g 11) n v3.toNatClampNeg v2.toNatClampNeg → zI MT g → mJ g → g 0 18 = g0 0 18 ∧ g 0 2 = g0 0 2 → Ex (kk (v2, v3, g, L)) (fun (r : Int32) g1 L1 => zI MT g1 ∧ mJ g1 ∧ g1 0 18 = g0 0 18 ∧ g1 0 2 = g0 0 2) := fun v2 v3 g L => by rw [← hkk]; exact ih f v2 v3 g L (by omega)
      have e31 : (v3 + 1).toInt = v3.toInt + 1 := ic_addc rfl (by decide) (by omega) (by omega)
      unfold fX12_reckons_s4
      refine Ex.ck (by omega) (by omega) ?_
      refine Ex.ite (fun c => Ex.ck (by decide) (by decide) (Ex.ret ⟨hI, hJ, hk⟩)) (fun c => ?_)
      have c := icc_neq (m := (g 11 v3.toNatClampNeg).toInt) (n := 0) rfl (by decide) c
      refine Ex.ck (by omega) (by omega) ?_
      refine Ex.lti (fun x xe xi => ?_)
      have n31 : (v3 + 1).toNatClampNeg = v3.toNatClampNeg + 1 := by rw [nc, e31]; omega
      have P36 : (x.toInt = 1 ∨ x.toInt = 2) → Ex (fX12_reckons_p36 fu kk v2 (v3 + 1) x g L) (fun (r : Int32) g1 L1 => zI MT g1 ∧ mJ g1 ∧ g1 0 18 = g0 0 18 ∧ g1 0 2 = g0 0 2) := by
        intro hx
        have hm : v3.toNatClampNeg + 1 < 1900 ∧ v2.toNatClampNeg < 950 ∧ (x.toInt = 2 → 0 ≤ (g 11 (v3.toNatClampNeg + 1)).toInt ∧ (g 11 (v3.toNatClampNeg + 1)).toInt ≤ 5) ∧ wf (g 11) n (v3.toNatClampNeg + 2) (v2.toNatClampNeg + 1) := by
          rcases hw with h | ⟨h, q1, q2, q3⟩ | ⟨h, q1, q2, q3, q4, q5⟩ | ⟨h, _⟩ | ⟨h, h1, h2, _⟩
          · omega
          · exact ⟨q1, q2, fun _ => by omega, q3⟩
          · exact ⟨q1, q2, fun _ => ⟨q3, q4⟩, q5⟩
          · omega
          · omega
        obtain ⟨m1, m2, m3, m4⟩ := hm
        have P67 : ∀ t0 : Int32, Ex (fX12_reckons_p67 fu kk v2 (v3 + 1) t0 v2 g L) (fun (r : Int32) g1 L1 => zI MT g1 ∧ mJ g1 ∧ g1 0 18 = g0 0 18 ∧ g1 0 2 = g0 0 2) := by
          intro t0
          unfold fX12_reckons_p67
          refine Ex.ck (by omega) (by omega) ?_
          refine Ex.sti (hI.updN rfl) (fun g1 g1e hI => ?_)
          unfold fX12_reckons_p140
          have e21 : (v2 + 1).toInt = v2.toInt + 1 := ic_addc rfl (by decide) (by omega) (by omega)
          have e32 : (v3 + 1 + 1).toInt = v3.toInt + 2 := (ic_addc (n := 1) e31 (by decide) (by omega) (by omega)).trans (by omega)
          refine ih _ _ _ _ (by omega) (by omega) ?_ hI (by rw [g1e]; exact hJ.upd rfl) (by rw [g1e]; exact hk)
          have n1 : (v3 + 1 + 1).toNatClampNeg = v3.toNatClampNeg + 2 := by rw [nc, e32]; omega
          have n2 : (v2 + 1).toNatClampNeg = v2.toNatClampNeg + 1 := by rw [nc, e21]; omega
          have n3 : g1 11 = g 11 := by rw [g1e]; rfl
          rw [n1, n2, n3]; exact m4
        unfold fX12_reckons_p36
        refine Ex.ite (fun cc => Ex.ck (by omega) (by omega) (P67 _)) (fun cc => ?_)
        have cc := icc_neq (m := x.toInt) (n := 1) rfl (by decide) cc
        have m3 := m3 (by omega)
        rw [← n31] at m3
        exact Ex.ck (by omega) (by omega) (Ex.ck (by omega) (by omega) (P67 _))
      refine Ex.ite (fun c1 => P36 (Or.inl (icc_eq (m := x.toInt) (n := 1) rfl (by decide) c1))) (fun c1 => ?_)
      refine Ex.ite (fun c2 => P36 (Or.inr (icc_eq (m := x.toInt) (n := 2) rfl (by decide) c2))) (fun c2 => ?_)
      have c1 := icc_neq (m := x.toInt) (n := 1) rfl (by decide) c1
      have c2 := icc_neq (m := x.toInt) (n := 2) rfl (by decide) c2
      refine Ex.ite (fun c3 => ?_) (fun c3 => ?_)
      · have c3 := icc_eq (m := x.toInt) (n := 3) rfl (by decide) c3
        have hm : 1 ≤ v2.toNatClampNeg ∧ v2.toNatClampNeg ≤ 950 ∧ wf (g 11) n (v3.toNatClampNeg + 1) v2.toNatClampNeg := by
          rcases hw with h | ⟨h, _⟩ | ⟨h, _⟩ | ⟨h, q⟩ | ⟨h, h1, h2, h3, _⟩
          · omega
          · omega
          · omega
          · exact q
          · omega
        obtain ⟨m1, m2, m3⟩ := hm
        have e21 : (v2 - 1).toInt = v2.toInt - 1 := ic_subc rfl (by decide) (by omega) (by omega)
        refine Ex.ck (by omega) (by omega) ?_
        have P : ∀ t0 : Int32, Ex (fX12_reckons_p106 fu kk v2 (v3 + 1) t0 (v2 - 1) g L) (fun (r : Int32) g1 L1 => zI MT g1 ∧ mJ g1 ∧ g1 0 18 = g0 0 18 ∧ g1 0 2 = g0 0 2) := by
          intro t0
          unfold fX12_reckons_p106
          refine Ex.ck (by omega) (by omega) ?_
          refine Ex.sti (hI.updN rfl) (fun g1 g1e hI => ?_)
          unfold fX12_reckons_p140
          refine ih _ _ _ _ (by omega) (by omega) ?_ hI (by rw [g1e]; exact hJ.upd rfl) (by rw [g1e]; exact hk)
          have n3 : g1 11 = g 11 := by rw [g1e]; rfl
          rw [n31, n3]; exact m3
        exact Ex.ite (fun _ => P 1) (fun _ => P 0)
      · have c3 := icc_neq (m := x.toInt) (n := 3) rfl (by decide) c3
        have hm : 2 ≤ v2.toNatClampNeg ∧ v2.toNatClampNeg ≤ 950 ∧ wf (g 11) n (v3.toNatClampNeg + 1) (v2.toNatClampNeg - 1) := by
          rcases hw with h | ⟨h, _⟩ | ⟨h, _⟩ | ⟨h, _⟩ | ⟨h, h1, h2, h3, q⟩
          · omega
          · omega
          · omega
          · omega
          · exact q
        obtain ⟨m1, m2, m3⟩ := hm
        clear e31
        generalize hz1 : v2 + (-1) = z1
        have e21 : z1.toInt = v2.toInt + -1 := by rw [← hz1]; exact ic_addc rfl (by decide) (by omega) (by omega)
        clear hz1
        generalize hz2 : z1 - 1 = z2
        have e22 : z2.toInt = z1.toInt - 1 := by rw [← hz2]; exact ic_subc rfl (by decide) (by omega) (by omega)
        clear hz2
        have e31 : (v3 + 1).toInt = v3.toInt + 1 := ic_addc rfl (by decide) (by omega) (by omega)
        refine Ex.ck (by omega) (by omega) ?_
        refine Ex.ck (by omega) (by omega) ?_
        refine Ex.cb (uX12_works fu _ _ _ g L) (fun x8 g9 L10 hg => ?_)
        subst hg
        refine Ex.ck (by omega) (by omega) ?_
        refine Ex.sti (hI.updN rfl) (fun g1 g1e hI => ?_)
        unfold fX12_reckons_p140
        refine ih _ _ _ _ (by omega) (by omega) ?_ hI (by rw [g1e]; exact hJ.upd rfl) (by rw [g1e]; exact hk)
        have n3 : g1 11 = g9 11 := by rw [g1e]; rfl
        have n4 : z1.toNatClampNeg = v2.toNatClampNeg - 1 := by rw [nc]; omega
        rw [n31, n3, n4]; exact m3
  obtain ⟨h1, n, h2, h3⟩ := hp
  unfold fX12_reckons fX12_reckons_l4
  exact key n fu 0 p1 g0 L0 (by omega) (by decide) h1 h3 hI hJ ⟨rfl, rfl⟩
