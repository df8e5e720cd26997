/-! ===== the class: reading a house ===== -/
set_option maxHeartbeats 4000000 in
theorem sX6_read_5_2 (fu : Nat) (hfu : 1180591620717411303424 ≤ fu) (p1 : Int32) (g0 : Nat → Nat → Int32) (L0 : Nat → Nat → Int64) (hI : zI XT g0) (hp : 0 ≤ p1.toInt) : Ex (fX6_read_5_2 fu p1 g0 L0) (fun (r : Unit) g1 L1 => zI XT g1 ∧ g1 0 13 = g0 0 13) := by
  unfold fX6_read_5_2
  refine Ex.cb (sX7_clear_2n fu hfu g0 L0 hI) (fun _ g2 L3 hq => ?_)
  obtain ⟨hI, k2⟩ := hq
  have hm := ic_min (x := p1) (y := 700) (m := p1.toInt) (n := 700) rfl (by decide)
  generalize (if 700 < p1 then 700 else p1) = w at hm ⊢
  refine Ex.sti (hI.upd (lo := 0) (hi := 700) rfl (by omega) (by omega)) (fun g5 g5e hI => ?_)
  refine Ex.sti (hI.upd (lo := 0) (hi := 700) rfl (by decide) (by decide)) (fun g6 g6e hI => ?_)
  refine Ex.sti (hI.updN rfl) (fun g7 g7e hI => ?_)
  refine Ex.sti (hI.updN rfl) (fun g8 g8e hI => ?_)
  refine Ex.sti (hI.upd (lo := 0) (hi := 1) rfl (by decide) (by decide)) (fun g9 g9e hI => ?_)
  refine Ex.sti (hI.upd (lo := 0) (hi := 1) rfl (by decide) (by decide)) (fun g10 g10e hI => ?_)
  refine Ex.sti (hI.updN rfl) (fun g11 g11e hI => ?_)
  have hJ : pJ g11 := by rw [g11e]; exact pJ.kind (by decide)
  have k11 : g11 0 13 = g0 0 13 := by rw [g11e, g10e, g9e, g8e, g7e, g6e, g5e]; exact k2
  refine Ex.cb (sX6_advance_5 fu hfu g11 L3 hI hJ) (fun _ g13 L14 hq => ?_)
  obtain ⟨hI, hJ, -, k13⟩ := hq
  have k13 : g13 0 13 = g0 0 13 := k13.trans k11
  unfold fX6_read_5_2_l61
  have e0 : (0 : Int32).toInt = 0 := by decide
  refine Ex.loop (α := Int32 × (Nat → Nat → Int32) × (Nat → Nat → Int64)) (fun v => (0 ≤ v.1.toInt ∧ v.1.toInt ≤ 701) ∧ zI XT v.2.1 ∧ pJ v.2.1 ∧ v.2.1 0 13 = g0 0 13) (fun v => 702 - v.1.toInt) (by omega) (by show 702 - (0 : Int32).toInt < (fu : Int); omega) ⟨(show 0 ≤ (0 : Int32).toInt ∧ (0 : Int32).toInt ≤ 701 from by omega), hI, hJ, k13⟩ (fun k61 v hv ih => ?_)
  obtain ⟨v3, g, L⟩ := v
  obtain ⟨hb, hI, hJ, hk⟩ := hv
  have hb : 0 ≤ v3.toInt ∧ v3.toInt ≤ 701 := hb
  have hI : zI XT g := hI
  have hJ : pJ g := hJ
  have hk : g 0 13 = g0 0 13 := hk
  show Ex (fX6_read_5_2_s61 fu k61 v3 g L) _
  unfold fX6_read_5_2_s61 fX6_read_5_2_p93
  refine Ex.ite (fun _ => Ex.ret ⟨hI, hk⟩) (fun c => ?_)
  have c := icc_nlt (m := 700) (n := v3.toInt) (by decide) rfl c
  refine Ex.ite (fun _ => Ex.ret ⟨hI, hk⟩) (fun _ => Ex.ite (fun _ => Ex.ret ⟨hI, hk⟩) (fun _ => ?_))
  refine Ex.cb (sX6_readLine_5 fu hfu g L hI hJ) (fun _ g20 L21 hq => ?_)
  obtain ⟨hI, hJ, k20⟩ := hq
  generalize hw : v3 + 1 = w
  have ew : w.toInt = v3.toInt + 1 := by rw [← hw]; exact ic_addc rfl (by decide) (by omega) (by omega)
  exact ih (w, g20, L21) ⟨(show 0 ≤ w.toInt ∧ w.toInt ≤ 701 from by omega), hI, hJ, k20.trans hk⟩ (by show 702 - w.toInt < 702 - v3.toInt; omega) (by show 0 < 702 - v3.toInt; omega)
theorem Ex.swp {ρ : Type} {Q : ρ → (Nat → Nat → Int32) → (Nat → Nat → Int64) → Prop} {g : Nat → Nat → Int32} {L : Nat → Nat → Int64} {K : (Nat → Nat → Int32) → (Nat → Nat → Int64) → Option (ρ × zS)} (h : Ex (K (fun k => g (sg k)) (fun k => L (sg k))) Q) : Ex (swp g L K) Q := h
theorem xt_sg (k j : Nat) : XT (sg k) j = XT k j := by
  by_cases h57 : k < 57
  · have h : ∀ k, k < 57 → sg k = k ∨ ((k = 1 ∧ sg k = 2) ∨ (k = 2 ∧ sg k = 1) ∨ (k = 3 ∧ sg k = 4) ∨ (k = 4 ∧ sg k = 3) ∨ (k = 17 ∧ sg k = 18) ∨ (k = 18 ∧ sg k = 17) ∨ (k = 19 ∧ sg k = 22) ∨ (k = 20 ∧ sg k = 23) ∨ (k = 21 ∧ sg k = 24) ∨ (k = 22 ∧ sg k = 19) ∨ (k = 23 ∧ sg k = 20) ∨ (k = 24 ∧ sg k = 21)) := by decide +kernel
    rcases h k h57 with e | e
    · rw [e]
    · rcases e with ⟨rfl, e⟩ | ⟨rfl, e⟩ | ⟨rfl, e⟩ | ⟨rfl, e⟩ | ⟨rfl, e⟩ | ⟨rfl, e⟩ | ⟨rfl, e⟩ | ⟨rfl, e⟩ | ⟨rfl, e⟩ | ⟨rfl, e⟩ | ⟨rfl, e⟩ | ⟨rfl, e⟩ <;> rw [e] <;> rfl
  · by_cases h81 : k < 81
    · have e1 : 57 ≤ sg k ∧ sg k < 81 := by
        by_cases h : k < 69
        · rw [sg_les1 (by omega) h]; omega
        · rw [sg_les2 (by omega) h81]; omega
      unfold XT
      rw [if_neg (by omega), if_pos e1.2, if_neg h57, if_pos h81]
    · have e1 : 81 ≤ sg k := by
        by_cases h : k < 93
        · rw [sg_wai1 (by omega) h]; omega
        · by_cases h2 : k < 105
          · rw [sg_wai2 (by omega) h2]; omega
          · unfold sg; rw [if_neg h57, if_neg (by omega), if_neg h81, if_neg h, if_neg h2]; omega
      rw [xt_wai e1, xt_wai (by omega)]
set_option maxHeartbeats 4000000 in
theorem sX11_house_0 (fu : Nat) (hfu : 1180591620717411303424 ≤ fu) (p1 : Int32) (g0 : Nat → Nat → Int32) (L0 : Nat → Nat → Int64) (hI : zI XT g0) : Ex (fX11_house_0 fu p1 g0 L0) (fun (r : Except String Int32) g1 L1 => zI XT g1 ∧ (∀ E, r = .error E → E = "java/lang/IllegalArgumentException" ∧ g1 0 13 = g0 0 13 ∧ (p1.toInt < 0 ∨ (g0 0 13).toInt < p1.toInt)) ∧ (∀ v, r = .ok v → (g1 0 13).toInt = 0 ∧ 0 ≤ p1.toInt ∧ p1.toInt ≤ (g0 0 13).toInt)) := by
  unfold fX11_house_0 fX11_house_0_p12
  refine Ex.ite (fun c => ?_) (fun c => ?_)
  · have c := icc_lt (m := p1.toInt) (n := 0) rfl (by decide) c
    exact Ex.ret ⟨hI, fun E e => by cases e; exact ⟨rfl, rfl, Or.inl c⟩, fun v e => nomatch e⟩
  have c := icc_nlt (m := p1.toInt) (n := 0) rfl (by decide) c
  refine Ex.ite (fun d => ?_) (fun d => ?_)
  case refine_2 =>
    have d := icc_nle (m := p1.toInt) (n := (g0 0 13).toInt) rfl rfl d
    exact Ex.ret ⟨hI, fun E e => by cases e; exact ⟨rfl, rfl, Or.inr d⟩, fun v e => nomatch e⟩
  have d := icc_le (m := p1.toInt) (n := (g0 0 13).toInt) rfl rfl d
  refine Ex.sti (hI.upd (lo := 0) (hi := 700) rfl (by decide) (by decide)) (fun g3 g3e hI => ?_)
  have k3 : g3 0 13 = 0 := by rw [g3e]; exact upd2_at
  refine Ex.cb (sX6_read_5_2 fu hfu p1 g3 L0 hI c) (fun _ g5 L6 hq => ?_)
  obtain ⟨hI, k5⟩ := hq
  refine Ex.sti (hI.updN rfl) (fun g8 g8e hI => ?_)
  have k8 : g8 0 13 = 0 := by rw [g8e]; exact k5.trans k3
  refine Ex.ite (fun _ => ?_) (fun _ => ?_)
  · refine Ex.swp ?_
    have hI2 : zI XT (fun k => g8 (sg k)) := fun k j lo hi h => hI (sg k) j lo hi ((xt_sg k j).trans h)
    refine Ex.cb (sX3_start_6_1 fu hfu _ _ hI2) (fun _ g13 L14 hq => ?_)
    obtain ⟨hI, k13⟩ := hq
    refine Ex.sti (hI.upd (lo := 0) (hi := 1) rfl (by decide) (by decide)) (fun g16 g16e hI => ?_)
    refine Ex.sti (hI.upd (lo := 0) (hi := 1) rfl (by decide) (by decide)) (fun g17 g17e hI => ?_)
    have k17 : g17 0 13 = 0 := by rw [g17e, g16e]; exact k13.trans k8
    exact Ex.ret ⟨hI, fun E e => (nomatch e), fun v e => ⟨by rw [k17]; decide, c, d⟩⟩
  · refine Ex.ck (by decide) (by decide) (Ex.ck (by decide) (by decide) ?_)
    refine Ex.sti (hI.updN rfl) (fun g18 g18e hI => ?_)
    have k18 : g18 0 13 = 0 := by rw [g18e]; exact k8
    exact Ex.ret ⟨hI, fun E e => (nomatch e), fun v e => ⟨by rw [k18]; decide, c, d⟩⟩
