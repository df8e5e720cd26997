section
/-! ===== far, reaches, slack, answered ===== -/
theorem fd_61 {g gm : gT} (h : CR g gm) : upd2 gm 0 0 0 0 61 = -1 := by
  rw [upd2_nj (by decide)]
  exact h.1.2.2.2.2.2.2.2.2
theorem cr_far {fu : Nat} {p1 p2 p3 : Int32} {g gm g1 g2 : gT} {L Lm L1 L2 : lT} {rx : Except String Int32} {rm : Int32} (h : CR g gm) (e1 : fX11_far_0 fu p1 p2 p3 g L = some (rx, (g1, L1))) (e2 : fX12_far fu p1 p2 p3 gm Lm = some (rm, (g2, L2))) : (rx = .ok rm ∧ g2 0 0 = 0) ∨ (rx = .error NSE ∧ g2 0 0 = 1) ∨ (rx = .error IAE ∧ g2 0 0 = 2) := by
  have hp := h.1.1
  have hI := hp.2.1
  obtain ⟨k1, -⟩ := hp.2.2.2.2.2.2.1
  have r1 := hI 0 1 0 12 rfl
  have h61 := fd_61 h
  have a0 : upd2 gm 0 0 0 0 0 = 0 := upd2_at
  have a1 : upd2 gm 0 0 0 0 1 = gm 0 1 := rfl
  unfold fX11_far_0 fX11_far_0_p54 at e1
  unfold fX12_far fX12_far_p37 fX12_far_p60 at e2
  unfold sti at e2
  have e2 : cb (fX12_isLesson fu p1 (upd2 gm 0 0 0) Lm) _ = some (rm, (g2, L2)) := e2
  by_cases c1 : isL (gm 0 1) p1
  rotate_left
  · rw [xneed0 (by rw [k1]; exact c1)] at e1
    have e1 : some (.error NSE, (g, L)) = some (rx, (g1, L1)) := e1
    rw [lesson0 a0 (by rw [a1]; exact c1)] at e2
    have e2 : some ((0 : Int32), (upd2 (upd2 gm 0 0 0) 0 0 1, Lm)) = some (rm, (g2, L2)) := e2
    cases e1; cases e2
    exact Or.inr (Or.inl ⟨rfl, upd2_at⟩)
  rw [xneed1 (by rw [k1]; exact c1), cbxs] at e1
  rw [lesson1 a0 (by rw [a1]; exact c1), cbs, if_neg (by decide)] at e2
  have i1 : (1 : Int32).toInt = 1 := rfl
  have i2 : (2 : Int32).toInt = 2 := rfl
  by_cases c2 : 0 ≤ p3.toInt ∧ p3.toInt ≤ (1 : Int32).toInt
  rotate_left
  · rw [xwhat0 (fun hh => c2 (by omega))] at e1
    have e1 : some (.error NSE, (g, L)) = some (rx, (g1, L1)) := e1
    rw [what0 a0 c2] at e2
    have e2 : some ((0 : Int32), (upd2 (upd2 gm 0 0 0) 0 0 1, Lm)) = some (rm, (g2, L2)) := e2
    cases e1; cases e2
    exact Or.inr (Or.inl ⟨rfl, upd2_at⟩)
  rw [xwhat1 c2.1 (by omega), cbxs] at e1
  rw [what1 a0 c2.1 c2.2, cbs, if_neg (by decide)] at e2
  by_cases c3 : (0 : Int32).toInt ≤ p2.toInt ∧ p2.toInt ≤ (120 : Int32).toInt
  rotate_left
  · rw [xwith0 c3] at e1
    have e1 : some (.error IAE, (g, L)) = some (rx, (g1, L1)) := e1
    rw [within0 c3, cbs, right0 a0 (by decide), cbs, if_pos rfl] at e2
    cases e1; cases e2
    exact Or.inr (Or.inr ⟨rfl, upd2_at⟩)
  rw [xwith1 c3.1 c3.2, cbxs] at e1
  rw [within1 c3.1 c3.2, cbs, right1 a0, cbs, if_neg (by decide)] at e2
  have hl := l12 c1 r1.2
  obtain ⟨l, el⟩ : ∃ i : Nat, p1.toInt = (i : Int) := ⟨p1.toInt.toNat, by omega⟩
  have nl : l < (gm 0 1).toInt.toNat := by have := c1.2; omega
  obtain ⟨xa, ga, La, ea, e1⟩ := cb_some e1
  obtain ⟨xb, gb, Lb, eb, e1⟩ := cb_some e1
  obtain ⟨xc, gc, Lc, ec, e2⟩ := cb_some e2
  obtain ⟨cs, hX, hM, -⟩ := dc_all h
  have hX := hX.d (e0_u (x := 0))
  have hM := hM.d (e0_u (x := 0))
  have hW := hM.2.1
  have ta := tm_0 hX nl _ _ _ ea
  obtain ⟨tB, nB⟩ := tm_s hX h61 el nl ta _ _ _ eb
  obtain ⟨ec29, n1, n2, ex⟩ := moreBy_m hM (fun _ _ => rfl) h61 el (by omega) _ _ _ ec
  have hD := tm_c hX tB
  by_cases c0 : p3 = 0
  · rw [if_pos c0] at e1 e2
    obtain ⟨xd, gd, Ld, ed, e1⟩ := cb_some e1
    obtain ⟨xf, gf, Lf, ef, e2⟩ := cb_some e2
    cases e1; cases e2
    obtain ⟨-, u⟩ := bits_x hD _ _ _ ed
    obtain ⟨v0, v⟩ := later_m (n := (gm 0 1).toInt.toNat) (by rw [ec29 0 (by omega)]; exact hM.1.1) hM.1.2 _ _ _ ef
    refine Or.inl ⟨?_, by rw [v0, ec29 0 (by omega)]; exact a0⟩
    rw [u, v, flb_u hW (wf_mo hW) tB.2.2 nB n1 n2]
  · rw [if_neg c0] at e1 e2
    obtain ⟨xd, gd, Ld, ed, e1⟩ := cb_some e1
    cases e1; cases e2
    obtain ⟨-, u⟩ := mins_x hD _ _ _ ed
    refine Or.inl ⟨?_, by rw [ec29 0 (by omega)]; exact a0⟩
    have q : fo (fLM (gb 44) (gb 49)) (gm 0 1).toInt.toNat = fo (fLM (g2 32) (g2 37)) (gm 0 1).toInt.toNat := fo_c (fun i hi a => by unfold fLM; rw [EN.u hW tB.2.2 n1 i hi, EN.u (wf_mo hW) nB n2 i hi])
    rw [u, ex, q]
theorem cr_reaches {fu : Nat} {p1 p2 : Int32} {g gm g1 g2 : gT} {L Lm L1 L2 : lT} {rx : Except String Int32} {rm : Int32} (h : CR g gm) (e1 : fX11_reaches_0 fu p1 p2 g L = some (rx, (g1, L1))) (e2 : fX12_reaches fu p1 p2 gm Lm = some (rm, (g2, L2))) : (rx = .ok rm ∧ g2 0 0 = 0) ∨ (rx = .error NSE ∧ g2 0 0 = 1) ∨ (rx = .error IAE ∧ g2 0 0 = 2) := by
  have hp := h.1.1
  have hI := hp.2.1
  obtain ⟨k1, -⟩ := hp.2.2.2.2.2.2.1
  have r1 := hI 0 1 0 12 rfl
  have h61 := fd_61 h
  have a0 : upd2 gm 0 0 0 0 0 = 0 := upd2_at
  have a1 : upd2 gm 0 0 0 0 1 = gm 0 1 := rfl
  unfold fX11_reaches_0 at e1
  unfold fX12_reaches fX12_reaches_p39 fX12_reaches_p32 fX12_reaches_p39 at e2
  unfold sti at e2
  have e2 : cb (fX12_isLesson fu p1 (upd2 gm 0 0 0) Lm) _ = some (rm, (g2, L2)) := e2
  by_cases c1 : isL (gm 0 1) p1
  rotate_left
  · rw [xneed0 (by rw [k1]; exact c1)] at e1
    have e1 : some (.error NSE, (g, L)) = some (rx, (g1, L1)) := e1
    rw [lesson0 a0 (by rw [a1]; exact c1)] at e2
    have e2 : some ((0 : Int32), (upd2 (upd2 gm 0 0 0) 0 0 1, Lm)) = some (rm, (g2, L2)) := e2
    cases e1; cases e2
    exact Or.inr (Or.inl ⟨rfl, upd2_at⟩)
  rw [xneed1 (by rw [k1]; exact c1), cbxs] at e1
  rw [lesson1 a0 (by rw [a1]; exact c1), cbs, if_neg (by decide)] at e2
  by_cases c2 : isL (gm 0 1) p2
  rotate_left
  · rw [xneed0 (by rw [k1]; exact c2)] at e1
    have e1 : some (.error NSE, (g, L)) = some (rx, (g1, L1)) := e1
    rw [lesson0 a0 (by rw [a1]; exact c2)] at e2
    have e2 : some ((0 : Int32), (upd2 (upd2 gm 0 0 0) 0 0 1, Lm)) = some (rm, (g2, L2)) := e2
    cases e1; cases e2
    exact Or.inr (Or.inl ⟨rfl, upd2_at⟩)
  rw [xneed1 (by rw [k1]; exact c2), cbxs] at e1
  rw [lesson1 a0 (by rw [a1]; exact c2), cbs, if_neg (by decide)] at e2
  by_cases c3 : p1 = p2
  · rw [if_pos c3] at e1 e2
    rw [right0 a0 (by decide), cbs, if_pos rfl] at e2
    cases e1; cases e2
    exact Or.inr (Or.inr ⟨rfl, upd2_at⟩)
  rw [if_neg c3] at e1 e2
  rw [right1 a0, cbs, if_neg (by decide)] at e2
  have hl := l12 c1 r1.2
  have ho := l12 c2 r1.2
  obtain ⟨l, el⟩ : ∃ i : Nat, p1.toInt = (i : Int) := ⟨p1.toInt.toNat, by omega⟩
  obtain ⟨o, eo⟩ : ∃ i : Nat, p2.toInt = (i : Int) := ⟨p2.toInt.toNat, by omega⟩
  have nl : l < (gm 0 1).toInt.toNat := by have := c1.2; omega
  have no : o < (gm 0 1).toInt.toNat := by have := c2.2; omega
  obtain ⟨xa, ga, La, ea, e1⟩ := cb_some e1
  cases e1
  obtain ⟨cs, hX, hM, -⟩ := dc_all h
  have u := reach_x (hX.d (e0_u (x := 0))) h61 el nl eo no _ _ _ ea
  have v := reach_m (hM.d (e0_u (x := 0))) h61 el nl eo no _ _ _ e2
  exact Or.inl ⟨by rw [UP.u u v.2], by rw [v.1]; exact a0⟩
theorem cr_slack {fu : Nat} {p1 : Int32} {g gm g1 g2 : gT} {L Lm L1 L2 : lT} {rx : Except String Int32} {rm : Int32} (h : CR g gm) (e1 : fX11_slack_0 fu p1 g L = some (rx, (g1, L1))) (e2 : fX12_slack fu p1 gm Lm = some (rm, (g2, L2))) : (rx = .ok rm ∧ g2 0 0 = 0) ∨ (rx = .error NSE ∧ g2 0 0 = 1) := by
  have hp := h.1.1
  have hI := hp.2.1
  obtain ⟨k1, -⟩ := hp.2.2.2.2.2.2.1
  have r1 := hI 0 1 0 12 rfl
  have h61 := fd_61 h
  have a0 : upd2 gm 0 0 0 0 0 = 0 := upd2_at
  have a1 : upd2 gm 0 0 0 0 1 = gm 0 1 := rfl
  unfold fX11_slack_0 at e1
  unfold fX12_slack at e2
  unfold sti at e2
  have e2 : cb (fX12_isLesson fu p1 (upd2 gm 0 0 0) Lm) _ = some (rm, (g2, L2)) := e2
  by_cases c1 : isL (gm 0 1) p1
  rotate_left
  · rw [xneed0 (by rw [k1]; exact c1)] at e1
    have e1 : some (.error NSE, (g, L)) = some (rx, (g1, L1)) := e1
    rw [lesson0 a0 (by rw [a1]; exact c1)] at e2
    have e2 : some ((0 : Int32), (upd2 (upd2 gm 0 0 0) 0 0 1, Lm)) = some (rm, (g2, L2)) := e2
    cases e1; cases e2
    exact Or.inr ⟨rfl, upd2_at⟩
  rw [xneed1 (by rw [k1]; exact c1), cbxs] at e1
  rw [lesson1 a0 (by rw [a1]; exact c1), cbs, if_neg (by decide)] at e2
  have hl := l12 c1 r1.2
  obtain ⟨l, el⟩ : ∃ i : Nat, p1.toInt = (i : Int) := ⟨p1.toInt.toNat, by omega⟩
  have nl : l < (gm 0 1).toInt.toNat := by have := c1.2; omega
  obtain ⟨xa, ga, La, ea, e1⟩ := cb_some e1
  cases e1
  obtain ⟨cs, hX, hM, -⟩ := dc_all h
  have u := slack_x (hX.d (e0_u (x := 0))) h61 el nl _ _ _ ea
  have v := slack_m (hM.d (e0_u (x := 0))) h61 el nl _ _ _ e2
  exact Or.inl ⟨by rw [DN.u u v.2], by rw [v.1]; exact a0⟩
/-! ===== how far the numbers of a day go ===== -/
def NB (n : Nat) (d : gT) : Prop := (∀ i : Nat, i < n → ((0 ≤ (d 1 i).toInt ∧ (d 1 i).toInt < (d 2 i).toInt ∧ (d 2 i).toInt ≤ 999) ∧ (1 ≤ (d 3 i).toInt ∧ (d 3 i).toInt ≤ 200) ∧ (1 ≤ (d 4 i).toInt ∧ (d 4 i).toInt ≤ 99) ∧ (0 ≤ (d 7 i).toInt ∧ (d 7 i).toInt ≤ 10)) ∧ (0 ≤ (d 12 (36 + i)).toInt ∧ (d 12 (36 + i)).toInt ≤ 99) ∧ (0 ≤ (d 12 (24 + i)).toInt ∧ (d 12 (24 + i)).toInt ≤ 9)) ∧ (0 ≤ (d 0 3).toInt ∧ (d 0 3).toInt ≤ 9) ∧ (1 ≤ (d 0 4).toInt ∧ (d 0 4).toInt ≤ 99)
theorem nb_of {g gm e : gT} (h : CS g gm) (he : E0 gm e) : NB (gm 0 1).toInt.toNat e := by
  obtain ⟨h, hV⟩ := h
  have hI := h.1.1.2.1
  have q4 := hI 0 4 1 99 rfl
  have e3 : e 0 3 = gm 0 3 := he 0 3 (fun x => absurd x.2 (by decide))
  have e4 : e 0 4 = gm 0 4 := he 0 4 (fun x => absurd x.2 (by decide))
  unfold NB
  rw [he.k (show 1 ≠ 0 by decide), he.k (show 2 ≠ 0 by decide), he.k (show 3 ≠ 0 by decide), he.k (show 4 ≠ 0 by decide), he.k (show 7 ≠ 0 by decide), he.k (show 12 ≠ 0 by decide), e3, e4]
  exact ⟨fun i hi => ⟨hV.1.1 i (by omega), hV.2.1.1 i (by omega), h.2.2.1.1 i (by omega)⟩, hV.1.2, q4⟩
theorem clp_b {m v : Int32} (h : 0 ≤ m.toInt) : 0 ≤ (clp m v).toInt ∧ (clp m v).toInt ≤ m.toInt := by
  unfold clp
  by_cases a : 0 ≤ v
  · rw [if_pos a]
    by_cases b : v ≤ m
    · rw [if_pos b]
      exact ⟨icc_le (m := 0) (n := v.toInt) rfl rfl a, ic_le.mp b⟩
    · rw [if_neg b]
      exact ⟨h, Int.le_refl _⟩
  · rw [if_neg a]
    exact ⟨Int.le_refl _, h⟩
theorem ov_b {cs : Nat → List Int} {d : gT} {i : Nat} {b : Int32} : 0 ≤ (ov cs d i b).toInt ∧ (ov cs d i b).toInt ≤ 180 := by
  rw [ov_e]
  by_cases c : stb (d 0 60) i = 1
  · rw [if_pos c]; exact ⟨by decide, by decide⟩
  · rw [if_neg c]
    by_cases c1 : d 0 61 = Int32.ofInt (i : Int)
    · rw [if_pos c1]; exact clp_b (m := 180) (by decide)
    · rw [if_neg c1]
      have := clp_b (m := 60) (v := gv cs d i b) (by decide)
      have e : (60 : Int32).toInt = 60 := rfl
      omega
/-- when a lesson begins and ends, at most and at least -/
theorem dy_b {cs : Nat → List Int} {n : Nat} {d : gT} {bg en ru by_ : Nat → Int32} (hN : NB n d) (h : DY cs d n bg en ru by_) : ∀ i, i < n → ((d 1 i).toInt ≤ (bg i).toInt ∧ (bg i).toInt ≤ 1098) ∧ ((bg i).toInt < (en i).toInt ∧ (d 2 i).toInt ≤ (en i).toInt ∧ (en i).toInt ≤ 1478) := by
  intro i hi
  obtain ⟨⟨⟨f1, f2, f3⟩, ⟨f4, f5⟩, -⟩, ⟨f6, f7⟩, -⟩ := hN.1 i hi
  obtain ⟨hl, hr, he⟩ := h i hi
  have sl : (d 1 i + d 12 (36 + i)).toInt = (d 1 i).toInt + (d 12 (36 + i)).toInt := ic_addc rfl rfl (by omega) (by omega)
  have hb : (d 1 i).toInt ≤ (bg i).toInt ∧ (bg i).toInt ≤ 1098 := by
    rcases hl with ⟨-, b, -⟩ | ⟨-, v, -, ⟨-, b, -⟩ | ⟨-, -, b, -⟩ | ⟨c1, c2, b, -⟩⟩
    · rw [b]; omega
    · rw [b]; omega
    · rw [b]; omega
    · rw [b]; omega
  have o := ov_b (cs := cs) (d := d) (i := i) (b := bg i)
  rw [← hr] at o
  have s1 : (bg i + d 3 i).toInt = (bg i).toInt + (d 3 i).toInt := ic_addc rfl rfl (by omega) (by omega)
  refine ⟨hb, ?_⟩
  by_cases c : d 2 i < bg i + d 3 i
  · have c' := ic_lt.mp c
    rw [if_pos c] at he
    have e : (en i).toInt = (bg i).toInt + (d 3 i).toInt + (ru i).toInt := by rw [he]; exact ic_addc s1 rfl (by omega) (by omega)
    omega
  · have c' := icc_nlt (m := (d 2 i).toInt) (n := (bg i + d 3 i).toInt) rfl rfl c
    rw [if_neg c] at he
    have e : (en i).toInt = (d 2 i).toInt + (ru i).toInt := by rw [he]; exact ic_addc rfl rfl (by omega) (by omega)
    omega
end
section
/-! ===== the ways that lead over the stair ===== -/
abbrev W2 : Type := List (Nat × Nat)
/-- of a lesson's ways, the first k -/
def wk (d : gT) (i : Nat) : Nat → W2
  | 0 => []
  | k + 1 => wk d i k ++ (if (5 ≤ (d 12 (24 + wf0 d i k)).toInt ↔ 5 ≤ (d 12 (24 + i)).toInt) then [] else [(wf0 d i k, i)])
def wl (d : gT) : Nat → W2
  | 0 => []
  | i + 1 => wl d i ++ wk d i (d 8 i).toInt.toNat
theorem wk_len {d : gT} {i : Nat} : ∀ k, (wk d i k).length ≤ k := by
  intro k
  induction k with
  | zero => exact Nat.le_refl _
  | succ k ih =>
    unfold wk
    rw [List.length_append]
    split
    · show _ + 0 ≤ _; omega
    · show _ + 1 ≤ _; omega
theorem wl_len {d : gT} {n : Nat} (h : ∀ i, i < n → (d 8 i).toInt.toNat ≤ 6) : ∀ i, i ≤ n → (wl d i).length ≤ 6 * i := by
  intro i
  induction i with
  | zero => intro _; exact Nat.le_refl _
  | succ i ih =>
    intro hi
    unfold wl
    rw [List.length_append]
    have a := ih (by omega)
    have b := wk_len (d := d) (i := i) (d 8 i).toInt.toNat
    have c := h i (by omega)
    omega
/-- a way: from a lesson ahead, over the stair -/
def WO (d : gT) (n : Nat) (p : Nat × Nat) : Prop := p.1 < p.2 ∧ p.2 < n ∧ ¬ (5 ≤ (d 12 (24 + p.1)).toInt ↔ 5 ≤ (d 12 (24 + p.2)).toInt)
theorem wk_o {d : gT} {n i : Nat} (hW : WF n d) (hi : i < n) : ∀ k, k ≤ (d 8 i).toInt.toNat → ∀ p ∈ wk d i k, WO d n p := by
  intro k
  induction k with
  | zero => intro _ p hp; exact absurd hp List.not_mem_nil
  | succ k ih =>
    intro hk p hp
    unfold wk at hp
    rcases List.mem_append.mp hp with hp | hp
    · exact ih (by omega) p hp
    · split at hp
      · exact absurd hp List.not_mem_nil
      · rename_i c
        rw [List.mem_singleton.mp hp]
        exact ⟨wf_lt hW hi (by omega), hi, c⟩
theorem wl_o {d : gT} {n : Nat} (hW : WF n d) : ∀ i, i ≤ n → ∀ p ∈ wl d i, WO d n p := by
  intro i
  induction i with
  | zero => intro _ p hp; exact absurd hp List.not_mem_nil
  | succ i ih =>
    intro hi p hp
    unfold wl at hp
    rcases List.mem_append.mp hp with hp | hp
    · exact ih (by omega) p hp
    · exact wk_o hW (by omega) _ (Nat.le_refl _) p hp
def upv (d : gT) (i : Nat) : Int32 := if 5 ≤ (d 12 (24 + i)).toInt then 1 else 0
/-- the ways as the class holds them; as the reference does -/
def WX (d : gT) (en : Nat → Int32) (l : W2) (g : gT) : Prop := (g 12 5).toInt = (l.length : Int) ∧ ∀ (w : Nat) (p : Nat × Nat), l[w]? = some p → g 53 w = en p.1 ∧ g 54 w = en p.1 + wy d p.1 p.2 ∧ g 55 w = d 4 p.1 ∧ g 56 w = upv d p.2
def WY (d : gT) (en : Nat → Int32) (l : W2) (g : gT) : Prop := (g 0 79).toInt = (l.length : Int) ∧ ∀ (w : Nat) (p : Nat × Nat), l[w]? = some p → (g 44 w).toInt = (p.1 : Int) ∧ g 45 w = en p.1 ∧ g 46 w = wy d p.1 p.2 ∧ g 47 w = upv d p.2
theorem ap_1 {l : W2} {p q : Nat × Nat} {w : Nat} (h : (l ++ [p])[w]? = some q) : (w < l.length ∧ l[w]? = some q) ∨ (w = l.length ∧ q = p) := by
  rw [List.getElem?_append] at h
  by_cases c : w < l.length
  · rw [if_pos c] at h; exact Or.inl ⟨c, h⟩
  · rw [if_neg c] at h
    cases hk : w - l.length with
    | zero =>
      rw [hk] at h
      have h : some p = some q := h
      cases h
      exact Or.inr ⟨by omega, rfl⟩
    | succ k =>
      rw [hk] at h
      exact nomatch h
theorem nar_b {x : Int32} (h : x = 1 ∨ x = 0) : vp_nar .boolean x = x := by
  rcases h with rfl | rfl <;> rfl
theorem upv_x {d : gT} {i : Nat} {x r : Int32} (hr : r = d 12 (24 + i)) (h : (x = 1 ∧ 5 ≤ r.toInt) ∨ (x = 0 ∧ r.toInt < 5)) : (x = 1 ∨ x = 0) ∧ x = upv d i ∧ (x = 1 ↔ 5 ≤ (d 12 (24 + i)).toInt) := by
  rw [hr] at h
  unfold upv
  rcases h with ⟨a, b⟩ | ⟨a, b⟩
  · rw [if_pos b]; exact ⟨Or.inl a, a, fun _ => b, fun _ => a⟩
  · rw [if_neg (by omega)]
    refine ⟨Or.inr a, a, fun q => ?_, fun q => by omega⟩
    rw [a] at q; exact absurd q (by decide)
theorem addWay_x {cs : Nat → List Int} {n j i fu : Nat} {p1 p2 : Int32} {g d : gT} {L : lT} {l : W2} (h : DC cs n g d) (hj : p1.toInt = (j : Int)) (hi : p2.toInt = (i : Int)) (jn : j < n) (ni : i < n) (hl : l.length < 72) (hw : WX d (g 44) l g) : Pc (fX9_addWay_12 fu p1 p2 g L) (fun _ g1 _ => WX d (g 44) (l ++ [(j, i)]) g1 ∧ ∀ k, k ≠ 12 → (k < 53 ∨ 56 < k) → g1 k = g k) := by
  have n12 := h.1.2
  have ej : p1.toNatClampNeg = j := by rw [nc, hj]; omega
  have ei : p2.toNatClampNeg = i := by rw [nc, hi]; omega
  have eM : (g 12 5).toNatClampNeg = l.length := by rw [nc, hw.1]; omega
  have cell : ∀ g' : gT, (∀ k, k ≠ 12 → (k < 53 ∨ 56 < k) → g' k = g k) → DC cs n g' d := fun g' e => h.c3 (fun k a => e k (by omega) (by omega))
  unfold fX9_addWay_12 fX9_addWay_12_p106
  refine pc_ite (fun c => ?_) (fun c => ?_)
  · have c := icc_le (m := 72) rfl hw.1 c
    omega
  rw [ej, eM]
  refine pc_ck (fun _ _ => pc_ck (fun _ _ => pc_st (fun g2 e2 => pc_ck (fun _ _ => ?_))))
  have o2 : ∀ k, k ≠ 53 → g2 k = g k := fun k hk => by rw [e2]; exact funext fun _ => upd2_nk hk
  refine pc_cb (way_x (cell g2 (fun k _ b => o2 k (by omega))) hj hi jn ni) (fun x3 g4 L5 q3 => ?_)
  obtain ⟨rfl, q3⟩ := q3
  rw [o2 12 (by decide), eM, o2 44 (by decide)]
  refine pc_ck (fun _ _ => pc_st (fun g7 e7 => ?_))
  have o7 : ∀ k, k ≠ 53 → k ≠ 54 → g7 k = g k := fun k a b => by rw [e7, ← o2 k a]; exact funext fun _ => upd2_nk b
  rw [o7 12 (by decide) (by decide), eM, show j % 12 = j by omega]
  refine pc_ck (fun _ _ => pc_ltn (fun q8 eq8 => ?_))
  subst eq8
  rw [o7 (57 + j) (by omega) (by omega), (h.2.1 j jn).1.1.2.2.2]
  refine pc_ck (fun _ _ => pc_st (fun g9 e9 => ?_))
  have o9 : ∀ k, k ≠ 53 → k ≠ 54 → k ≠ 55 → g9 k = g k := fun k a b c => by rw [e9, ← o7 k a b]; exact funext fun _ => upd2_nk c
  refine pc_cb up_x (fun x10 g11 L12 q10 => ?_)
  obtain ⟨rfl, q10⟩ := q10
  rw [ei, o9 27 (by decide) (by decide) (by decide)] at q10
  obtain ⟨b1, b2, -⟩ := upv_x (d := d) (i := i) (h.2.1 i ni).2.2.2.1 q10
  rw [o9 12 (by decide) (by decide) (by decide), eM, nar_b b1, b2]
  refine pc_ck (fun _ _ => pc_st (fun g14 e14 => ?_))
  have o14 : ∀ k, k ≠ 53 → k ≠ 54 → k ≠ 55 → k ≠ 56 → g14 k = g k := fun k a b c e => by rw [e14, ← o9 k a b c]; exact funext fun _ => upd2_nk e
  refine pc_st (fun g15 e15 => pc_some ⟨⟨?_, fun w p hp => ?_⟩, fun k a b => ?_⟩)
  · rw [e15, upd2_at, o14 12 (by decide) (by decide) (by decide) (by decide), ic_addc hw.1 (n := 1) rfl (by omega) (by omega), List.length_append]
    show _ = ((l.length + 1 : Nat) : Int)
    omega
  · have z53 : ∀ w, g15 53 w = upd2 g 53 l.length (g 44 j) 53 w := fun w => by
      rw [e15, upd2_nk (by decide), e14, upd2_nk (by decide), e9, upd2_nk (by decide), e7, upd2_nk (by decide), e2]
    have z54 : ∀ w, g15 54 w = upd2 g 54 l.length (g 44 j + wy d j i) 54 w := fun w => by
      rw [e15, upd2_nk (by decide), e14, upd2_nk (by decide), e9, upd2_nk (by decide), e7, q3]
      by_cases c : w = l.length
      · rw [c, upd2_at, upd2_at]
      · rw [upd2_nj c, upd2_nj c, o2 54 (by decide)]
    have z55 : ∀ w, g15 55 w = upd2 g 55 l.length (d 4 j) 55 w := fun w => by
      rw [e15, upd2_nk (by decide), e14, upd2_nk (by decide), e9]
      by_cases c : w = l.length
      · rw [c, upd2_at, upd2_at]
      · rw [upd2_nj c, upd2_nj c, o7 55 (by decide) (by decide)]
    have z56 : ∀ w, g15 56 w = upd2 g 56 l.length (upv d i) 56 w := fun w => by
      rw [e15, upd2_nk (by decide), e14]
      by_cases c : w = l.length
      · rw [c, upd2_at, upd2_at]
      · rw [upd2_nj c, upd2_nj c, o9 56 (by decide) (by decide) (by decide)]
    rw [z53, z54, z55, z56]
    rcases ap_1 hp with ⟨c, hq⟩ | ⟨c, hq⟩
    · have ne : w ≠ l.length := by omega
      rw [upd2_nj ne, upd2_nj ne, upd2_nj ne, upd2_nj ne]
      exact hw.2 w p hq
    · rw [c, hq, upd2_at, upd2_at, upd2_at, upd2_at]
      exact ⟨rfl, rfl, rfl, rfl⟩
  · rw [e15, ← o14 k (by omega) (by omega) (by omega) (by omega)]
    exact funext fun _ => upd2_nk a
theorem gather_x {cs : Nat → List Int} {n fu : Nat} {g d : gT} {L : lT} (h : DC cs n g d) : Pc (fX9_gather_12 fu g L) (fun _ g1 _ => DC cs n g1 d ∧ DY cs d n (g1 43) (g1 44) (g1 45) (g1 46) ∧ WX d (g1 44) (wl d n) g1) := by
  have hW := h.2.2.2.1
  have n12 := h.1.2
  have h8 : ∀ i, i < n → (d 8 i).toInt.toNat ≤ 6 := fun i hi => by have := (h.2.2.2.2.1 i hi).2; omega
  unfold fX9_gather_12
  refine pc_cb (rf_x h (f := 0) rfl (Nat.zero_le _)) (fun _ g2 L3 e2 => pc_st (fun g5 e5 => ?_))
  have h2 : DC cs n g2 d := h.c e2.2.2
  have cell : ∀ g' : gT, (∀ k, k ≠ 12 → (k < 53 ∨ 56 < k) → g' k = g2 k) → DC cs n g' d := fun g' e => h2.c3 (fun k a => e k (by omega) (by omega))
  have k5 : ∀ k, k ≠ 12 → g5 k = g2 k := fun k hk => by rw [e5]; exact funext fun _ => upd2_nk hk
  unfold fX9_gather_12_l15
  refine pc_loop (fun v => ∃ i : Nat, v.1.toInt = (i : Int) ∧ i ≤ n ∧ (∀ k, k ≠ 12 → (k < 53 ∨ 56 < k) → v.2.1 k = g2 k) ∧ WX d (g2 44) (wl d i) v.2.1) (fun k15 hk v hv => ?_) ⟨0, rfl, by omega, fun k a _ => k5 k a, ⟨by show (g5 12 5).toInt = 0; rw [e5, upd2_at]; rfl, fun w p hp => nomatch hp⟩⟩
  obtain ⟨v1, g', L'⟩ := v
  obtain ⟨i, hi, ni, ek, hw⟩ := hv
  replace hi : v1.toInt = (i : Int) := hi
  replace ek : ∀ k, k ≠ 12 → (k < 53 ∨ 56 < k) → g' k = g2 k := ek
  replace hw : WX d (g2 44) (wl d i) g' := hw
  show Pc (fX9_gather_12_s15 fu k15 v1 g' L') _
  unfold fX9_gather_12_s15
  have h' := cell g' ek
  refine pc_ite (fun c => pc_some ?_) (fun c => ?_)
  · have c := icc_le h'.1.1 hi c
    have em : i = n := by omega
    rw [em] at hw
    refine ⟨h', ?_, ?_⟩
    · rw [ek 43 (by decide) (by omega), ek 44 (by decide) (by omega), ek 45 (by decide) (by omega), ek 46 (by decide) (by omega)]
      exact fun i hi => e2.1 i (Nat.zero_le _) hi
    · rw [ek 44 (by decide) (by omega)]; exact hw
  have c := icc_nle h'.1.1 hi c
  have i' : i < n := by omega
  have b8 := (h.2.2.2.2.1 i i').2
  have ei : v1.toNatClampNeg = i := by rw [nc, hi]; omega
  obtain ⟨N, hN⟩ : ∃ N : Nat, (d 8 i).toInt = (N : Int) := ⟨(d 8 i).toInt.toNat, by omega⟩
  have hNn : (d 8 i).toInt.toNat = N := by omega
  have f1 : ∀ g'' : gT, (∀ k, k ≠ 12 → (k < 53 ∨ 56 < k) → g'' k = g2 k) → g'' (57 + i) 1 = d 8 i := fun g'' e => by
    rw [e (57 + i) (by omega) (by omega)]; exact (h2.2.1 i i').1.2.1.2.2.2
  have fw : ∀ k : Nat, (k : Int) < (d 8 i).toInt → g2 (81 + i) k = d 9 (6 * i + k) := (h2.2.1 i i').1.2.2.2
  have wln := wl_len h8 i (by omega)
  rw [ei, show i % 12 = i by omega]
  refine pc_ck (fun _ _ => pc_ltn (fun q eq => ?_))
  subst eq
  unfold fX9_gather_12_l44
  refine pc_loop (fun v => ∃ k : Nat, v.1.toInt = (k : Int) ∧ k ≤ N ∧ (∀ k, k ≠ 12 → (k < 53 ∨ 56 < k) → v.2.1 k = g2 k) ∧ WX d (g2 44) (wl d i ++ wk d i k) v.2.1) (fun k44 hk2 v hv => ?_) ⟨0, rfl, by omega, ek, by show WX d (g2 44) (wl d i ++ []) g'; rw [List.append_nil]; exact hw⟩
  obtain ⟨v3, g4, L4⟩ := v
  obtain ⟨k, hkk, kN, ek4, hw4⟩ := hv
  replace hkk : v3.toInt = (k : Int) := hkk
  replace ek4 : ∀ k, k ≠ 12 → (k < 53 ∨ 56 < k) → g4 k = g2 k := ek4
  replace hw4 : WX d (g2 44) (wl d i ++ wk d i k) g4 := hw4
  have h4 := cell g4 ek4
  show Pc (fX9_gather_12_s44 fu k15 v1 (57 + i) k44 v3 g4 L4) _
  unfold fX9_gather_12_s44 fX9_gather_12_p87
  have e3 : v3.toNatClampNeg = k := by rw [nc, hkk]; omega
  rw [f1 g4 ek4, e3, show 57 + i + 24 = 81 + i by omega, ek4 (81 + i) (by omega) (by omega)]
  refine pc_ite (fun c1 => hk _ ⟨i + 1, ?_, by omega, ek4, ?_⟩) (fun c1 => ?_)
  · show (v1 + 1).toInt = _
    rw [ic_addc hi (n := 1) rfl (by omega) (by omega)]; omega
  · have c1 := icc_le hN hkk c1
    show WX d (g2 44) (wl d i ++ wk d i (d 8 i).toInt.toNat) g4
    rw [hNn, show N = k by omega]; exact hw4
  have c1 := icc_nle hN hkk c1
  have ew : (v3 + 1).toInt = ((k + 1 : Nat) : Int) := by rw [ic_addc hkk (n := 1) rfl (by omega) (by omega)]; omega
  have jl : wf0 d i k < i := wf_lt hW i' (by omega)
  have wm := (hW i i').2.2 k (by omega)
  refine pc_ck (fun _ _ => pc_lti (fun x9 e9 => ?_))
  rw [fw k (by omega)] at e9
  have h9 : x9.toInt = ((wf0 d i k : Nat) : Int) := by rw [e9]; unfold wf0; omega
  have e9n : x9.toNatClampNeg = wf0 d i k := by rw [nc, h9]; omega
  refine pc_cb up_x (fun x10 g11 L12 q10 => ?_)
  obtain ⟨rfl, q10⟩ := q10
  refine pc_cb up_x (fun x14 g15 L16 q14 => ?_)
  obtain ⟨rfl, q14⟩ := q14
  rw [e9n] at q10
  rw [ei] at q14
  obtain ⟨b1, -, b3⟩ := upv_x (d := d) (i := wf0 d i k) (h4.2.1 _ (by omega)).2.2.2.1 q10
  obtain ⟨c1', -, c3⟩ := upv_x (d := d) (i := i) (h4.2.1 i i').2.2.2.1 q14
  have same : x10 = x14 ↔ (5 ≤ (d 12 (24 + wf0 d i k)).toInt ↔ 5 ≤ (d 12 (24 + i)).toInt) := by
    rw [← b3, ← c3]
    constructor
    · intro q; rw [q]
    · intro q
      rcases b1 with u | u
      · rw [u, q.mp u]
      · rcases c1' with w | w
        · have := q.mpr w; rw [u] at this; exact absurd this (by decide)
        · rw [u, w]
  refine pc_ite (fun c2 => hk2 _ ⟨k + 1, ew, by omega, ek4, ?_⟩) (fun c2 => ?_)
  · show WX d (g2 44) (wl d i ++ (wk d i k ++ (if _ then _ else _))) g15
    rw [if_pos (same.mp c2), List.append_nil]; exact hw4
  · have len : (wl d i ++ wk d i k).length < 72 := by
      rw [List.length_append]
      have := wk_len (d := d) (i := i) k
      omega
    have g44 : g15 44 = g2 44 := ek4 44 (by decide) (by omega)
    refine pc_cb (addWay_x h4 h9 hi (by omega) i' len (by rw [g44]; exact hw4)) (fun _ g20 L21 q20 => hk2 _ ⟨k + 1, ew, by omega, fun k a b => (q20.2 k a b).trans (ek4 k a b), ?_⟩)
    show WX d (g2 44) (wl d i ++ (wk d i k ++ (if _ then _ else _))) g20
    rw [if_neg (fun hh => c2 (same.mpr hh)), ← List.append_assoc, ← g44]
    exact q20.1
theorem wy_c {g d : gT} {j i : Nat} (h12 : g 12 = d 12) (h4 : g 4 = d 4) (h3 : g 0 3 = d 0 3) (h04 : g 0 4 = d 0 4) : wy g j i = wy d j i := by
  unfold wy
  rw [h12, h4, h3, h04]
theorem ways_m {cs : Nat → List Int} {n fu : Nat} {d : gT} {L : lT} (hM : MD cs n d) (hr : ∀ i, i < n → 0 ≤ (d 12 (24 + i)).toInt ∧ (d 12 (24 + i)).toInt ≤ 9) : Pc (fX12_ways fu d L) (fun _ g1 _ => ((∀ k, k ≠ 0 → k < 29 → g1 k = d k) ∧ (∀ j, j ≠ 79 → g1 0 j = d 0 j)) ∧ DY cs d n (g1 31) (g1 32) (g1 33) (g1 34) ∧ WY d (g1 32) (wl d n) g1) := by
  have hW := hM.2.1
  have n12 := hM.1.2
  have h8 : ∀ i, i < n → (d 8 i).toInt.toNat ≤ 6 := fun i hi => by have := hM.2.2.1 i hi; omega
  unfold fX12_ways
  refine pc_cb (wk_m hM) (fun _ g2 L3 e2 => pc_st (fun g5 e5 => ?_))
  have k5 : ∀ k, k ≠ 0 → g5 k = g2 k := fun k hk => by rw [e5]; exact funext fun _ => upd2_nk hk
  have o5 : ∀ j, j ≠ 79 → g5 0 j = g2 0 j := fun j hj => by rw [e5, upd2_nj hj]
  unfold fX12_ways_l11
  refine pc_loop (fun v => ∃ i : Nat, v.1.toInt = (i : Int) ∧ i ≤ n ∧ ((∀ k, k ≠ 0 → k < 44 → v.2.1 k = g2 k) ∧ (∀ j, j ≠ 79 → v.2.1 0 j = g2 0 j)) ∧ WY d (g2 32) (wl d i) v.2.1) (fun k11 hk v hv => ?_) ⟨0, rfl, by omega, ⟨fun k a _ => k5 k a, o5⟩, ⟨by show (g5 0 79).toInt = 0; rw [e5, upd2_at]; rfl, fun w p hp => nomatch hp⟩⟩
  obtain ⟨v1, g', L'⟩ := v
  obtain ⟨i, hi, ni, ⟨ek, eo⟩, hw⟩ := hv
  replace hi : v1.toInt = (i : Int) := hi
  replace ek : ∀ k, k ≠ 0 → k < 44 → g' k = g2 k := ek
  replace eo : ∀ j, j ≠ 79 → g' 0 j = g2 0 j := eo
  replace hw : WY d (g2 32) (wl d i) g' := hw
  show Pc (fX12_ways_s11 fu k11 v1 g' L') _
  unfold fX12_ways_s11
  have e01 : (g' 0 1).toInt = (n : Int) := by rw [eo 1 (by decide), e2.2 0 (by omega)]; exact hM.1.1
  refine pc_ite (fun c => pc_some ?_) (fun c => ?_)
  · have c := icc_le e01 hi c
    have em : i = n := by omega
    rw [em] at hw
    refine ⟨⟨fun k a b => (ek k a (by omega)).trans (e2.2 k (by omega)), fun j hj => by rw [eo j hj, e2.2 0 (by omega)]⟩, ?_, ?_⟩
    · rw [ek 31 (by decide) (by omega), ek 32 (by decide) (by omega), ek 33 (by decide) (by omega), ek 34 (by decide) (by omega)]
      exact e2.1
    · rw [ek 32 (by decide) (by omega)]; exact hw
  have c := icc_nle e01 hi c
  have i' : i < n := by omega
  have b8 := hM.2.2.1 i i'
  have ei : v1.toNatClampNeg = i := by rw [nc, hi]; omega
  have e24 : (24 + v1).toNatClampNeg = 24 + i := by rw [nc, ic_addc (m := 24) rfl hi (by omega) (by omega)]; omega
  obtain ⟨N, hN⟩ : ∃ N : Nat, (d 8 i).toInt = (N : Int) := ⟨(d 8 i).toInt.toNat, by omega⟩
  have hNn : (d 8 i).toInt.toNat = N := by omega
  have wln := wl_len h8 i (by omega)
  unfold fX12_ways_l21
  refine pc_loop (fun v => ∃ k : Nat, v.1.toInt = (k : Int) ∧ k ≤ N ∧ ((∀ k, k ≠ 0 → k < 44 → v.2.1 k = g2 k) ∧ (∀ j, j ≠ 79 → v.2.1 0 j = g2 0 j)) ∧ WY d (g2 32) (wl d i ++ wk d i k) v.2.1) (fun k21 hk2 v hv => ?_) ⟨0, rfl, by omega, ⟨ek, eo⟩, by show WY d (g2 32) (wl d i ++ []) g'; rw [List.append_nil]; exact hw⟩
  obtain ⟨v2, g4, L4⟩ := v
  obtain ⟨k, hkk, kN, ⟨ek4, eo4⟩, hw4⟩ := hv
  replace hkk : v2.toInt = (k : Int) := hkk
  replace ek4 : ∀ k, k ≠ 0 → k < 44 → g4 k = g2 k := ek4
  replace eo4 : ∀ j, j ≠ 79 → g4 0 j = g2 0 j := eo4
  replace hw4 : WY d (g2 32) (wl d i ++ wk d i k) g4 := hw4
  have d4 : ∀ k, k ≠ 0 → k < 29 → g4 k = d k := fun k a b => (ek4 k a (by omega)).trans (e2.2 k (by omega))
  show Pc (fX12_ways_s21 fu k11 v1 k21 v2 g4 L4) _
  unfold fX12_ways_s21 fX12_ways_p155
  have e6 : (6 * v1).toInt = 6 * (i : Int) := ic_mulc (m := 6) rfl hi (by omega) (by omega)
  rw [ei, d4 8 (by decide) (by omega)]
  refine pc_ck (fun _ _ => pc_ite (fun c1 => hk _ ⟨i + 1, ?_, by omega, ⟨ek4, eo4⟩, ?_⟩) (fun c1 => ?_))
  · show (v1 + 1).toInt = _
    rw [ic_addc hi (n := 1) rfl (by omega) (by omega)]; omega
  · have c1 := icc_le hN hkk c1
    show WY d (g2 32) (wl d i ++ wk d i (d 8 i).toInt.toNat) g4
    rw [hNn, show N = k by omega]; exact hw4
  have c1 := icc_nle hN hkk c1
  have e7 : (6 * v1 + v2).toNatClampNeg = 6 * i + k := by rw [nc, ic_addc e6 hkk (by omega) (by omega)]; omega
  have ew : (v2 + 1).toInt = ((k + 1 : Nat) : Int) := by rw [ic_addc hkk (n := 1) rfl (by omega) (by omega)]; omega
  have jl : wf0 d i k < i := wf_lt hW i' (by omega)
  have wm := (hW i i').2.2 k (by omega)
  rw [e7, d4 9 (by decide) (by omega), d4 12 (by decide) (by omega), e24]
  refine pc_ck (fun _ _ => pc_lti (fun x8 e8 => ?_))
  have h8' : x8.toInt = ((wf0 d i k : Nat) : Int) := by rw [e8]; unfold wf0; omega
  have e8n : x8.toNatClampNeg = wf0 d i k := by rw [nc, h8']; omega
  have f24 : (24 + x8).toNatClampNeg = 24 + wf0 d i k := by rw [nc, ic_addc (m := 24) rfl h8' (by omega) (by omega)]; omega
  rw [f24, e8n]
  refine pc_ck (fun _ _ => pc_ck (fun _ _ => pc_cb stair_m (fun x9 g10 L11 q9 => ?_)))
  obtain ⟨rfl, q9⟩ := q9
  refine pc_ite (fun c2 => hk2 _ ⟨k + 1, ew, by omega, ⟨ek4, eo4⟩, ?_⟩) (fun c2 => ?_)
  · show WY d (g2 32) (wl d i ++ (wk d i k ++ (if _ then _ else _))) g10
    rw [if_pos (q9.mp c2), List.append_nil]; exact hw4
  have cross : ¬ (5 ≤ (d 12 (24 + wf0 d i k)).toInt ↔ 5 ≤ (d 12 (24 + i)).toInt) := fun hh => c2 (q9.mpr hh)
  have len : (wl d i ++ wk d i k).length < 72 := by
    rw [List.length_append]
    have := wk_len (d := d) (i := i) k
    omega
  have eM : (g10 0 79).toNatClampNeg = (wl d i ++ wk d i k).length := by rw [nc, hw4.1]; omega
  generalize hl : wl d i ++ wk d i k = l at *
  rw [eM]
  refine pc_ck (fun _ _ => pc_st (fun g14 e14 => pc_ck (fun _ _ => ?_)))
  have o14 : ∀ k, k ≠ 44 → g14 k = g10 k := fun k a => by rw [e14]; exact funext fun _ => upd2_nk a
  rw [o14 0 (by decide), eM, o14 32 (by decide)]
  refine pc_ck (fun _ _ => pc_st (fun g15 e15 => ?_))
  have o15 : ∀ k, k ≠ 44 → k ≠ 45 → g15 k = g10 k := fun k a b => by rw [e15, ← o14 k a]; exact funext fun _ => upd2_nk b
  refine pc_cb (way_m (d := g15) (fun _ _ => rfl) h8' hi (by omega) (by omega)) (fun x16 g17 L18 q16 => ?_)
  obtain ⟨rfl, q16⟩ := q16
  have d15 : ∀ k, k ≠ 0 → k < 29 → g17 k = d k := fun k a b => (o15 k (by omega) (by omega)).trans (d4 k a b)
  rw [wy_c (d15 12 (by decide) (by omega)) (d15 4 (by decide) (by omega)) (by rw [o15 0 (by decide) (by decide), eo4 3 (by decide), e2.2 0 (by omega)]) (by rw [o15 0 (by decide) (by decide), eo4 4 (by decide), e2.2 0 (by omega)])] at q16
  rw [o15 0 (by decide) (by decide), eM]
  refine pc_ck (fun _ _ => pc_st (fun g20 e20 => ?_))
  have o20 : ∀ k, k ≠ 44 → k ≠ 45 → k ≠ 46 → g20 k = g10 k := fun k a b c => by rw [e20, ← o15 k a b]; exact funext fun _ => upd2_nk c
  rw [o20 12 (by decide) (by decide) (by decide), d4 12 (by decide) (by omega), o20 0 (by decide) (by decide) (by decide)]
  have fin : ∀ (t0 : Int32) (La : lT), t0 = upv d i → Pc (fX12_ways_p144 fu k11 k21 v1 v2 t0 (g10 0 79) g20 La) (fun _ g1 _ => ((∀ k, k ≠ 0 → k < 29 → g1 k = d k) ∧ (∀ j, j ≠ 79 → g1 0 j = d 0 j)) ∧ DY cs d n (g1 31) (g1 32) (g1 33) (g1 34) ∧ WY d (g1 32) (wl d n) g1) := by
    intro t0 La ht
    unfold fX12_ways_p144 fX12_ways_p155
    rw [eM]
    refine pc_ck (fun _ _ => pc_st (fun g21 e21 => pc_st (fun g22 e22 => hk2 _ ⟨k + 1, ew, by omega, ⟨fun k a b => ?_, fun j hj => ?_⟩, ?_⟩)))
    · show g22 k = g2 k
      rw [e22, ← ek4 k a b, ← o20 k (by omega) (by omega) (by omega), e21]
      exact funext fun _ => by rw [upd2_nk a, upd2_nk (by omega)]
    · show g22 0 j = g2 0 j
      rw [e22, upd2_nj hj, e21, upd2_nk (by decide), o20 0 (by decide) (by decide) (by decide)]
      exact eo4 j hj
    · show WY d (g2 32) (wl d i ++ (wk d i k ++ (if _ then _ else _))) g22
      rw [if_neg cross, ← List.append_assoc, hl]
      refine ⟨?_, fun w p hp => ?_⟩
      · rw [e22, upd2_at, e21, upd2_nk (by decide), o20 0 (by decide) (by decide) (by decide), ic_addc hw4.1 (n := 1) rfl (by omega) (by omega), List.length_append]
        show _ = ((l.length + 1 : Nat) : Int)
        omega
      · have z44 : ∀ w, g22 44 w = upd2 g10 44 l.length x8 44 w := fun w => by
          rw [e22, upd2_nk (by decide), e21, upd2_nk (by decide), e20, upd2_nk (by decide), e15, upd2_nk (by decide), e14]
        have z45 : ∀ w, g22 45 w = upd2 g10 45 l.length (g10 32 (wf0 d i k)) 45 w := fun w => by
          rw [e22, upd2_nk (by decide), e21, upd2_nk (by decide), e20, upd2_nk (by decide), e15]
          by_cases c : w = l.length
          · rw [c, upd2_at, upd2_at]
          · rw [upd2_nj c, upd2_nj c, o14 45 (by decide)]
        have z46 : ∀ w, g22 46 w = upd2 g10 46 l.length x16 46 w := fun w => by
          rw [e22, upd2_nk (by decide), e21, upd2_nk (by decide), e20]
          by_cases c : w = l.length
          · rw [c, upd2_at, upd2_at]
          · rw [upd2_nj c, upd2_nj c, o15 46 (by decide) (by decide)]
        have z47 : ∀ w, g22 47 w = upd2 g10 47 l.length t0 47 w := fun w => by
          rw [e22, upd2_nk (by decide), e21]
          by_cases c : w = l.length
          · rw [c, upd2_at, upd2_at]
          · rw [upd2_nj c, upd2_nj c, o20 47 (by decide) (by decide) (by decide)]
        rw [z44, z45, z46, z47]
        rcases ap_1 hp with ⟨c, hq⟩ | ⟨c, hq⟩
        · have ne : w ≠ l.length := by omega
          rw [upd2_nj ne, upd2_nj ne, upd2_nj ne, upd2_nj ne]
          exact hw4.2 w p hq
        · rw [c, hq, upd2_at, upd2_at, upd2_at, upd2_at]
          exact ⟨h8', by rw [ek4 32 (by decide) (by omega)], q16, ht⟩
  have ri := hr i i'
  have rj := hr (wf0 d i k) (by omega)
  refine pc_ck (fun _ _ => pc_ck (fun _ _ => pc_ite (fun c3 => fin _ _ ?_) (fun c3 => fin _ _ ?_)))
  · have c3 := ic_le.mp c3
    unfold upv
    rw [if_neg (fun hh => cross ⟨fun _ => hh, fun _ => by omega⟩)]
  · have c3 := icc_nle (m := (d 12 (24 + i)).toInt) (n := (d 12 (24 + wf0 d i k)).toInt) rfl rfl c3
    unfold upv
    rw [if_pos (Classical.byContradiction (fun hh => cross ⟨fun q => absurd (by omega) hh, fun q => absurd q hh⟩))]
end
section
/-! ===== term answers alike ===== -/
theorem ld_f {cs : Nat → List Int} {d e : gT} {bg en ru by_ : Nat → Int32} {i : Nat} (h0 : ∀ j, j = 3 ∨ j = 4 ∨ j = 52 ∨ j = 61 → e 0 j = d 0 j) (hs : stb (e 0 60) i = 1 ↔ stb (d 0 60) i = 1) (h1 : e 1 i = d 1 i) (h2 : e 2 i = d 2 i) (h3 : e 3 = d 3) (h4 : e 4 = d 4) (h5 : e 5 = d 5) (h6 : e 6 = d 6) (h8 : e 8 = d 8) (h9 : e 9 = d 9) (h12 : e 12 = d 12) (h : LD cs d bg en ru by_ i) : LD cs e bg en ru by_ i := by
  have z3 := h0 3 (Or.inl rfl)
  have z4 := h0 4 (Or.inr (Or.inl rfl))
  have z52 := h0 52 (Or.inr (Or.inr (Or.inl rfl)))
  have z61 := h0 61 (Or.inr (Or.inr (Or.inr rfl)))
  have hc : cmg e = cmg d := by
    funext en i k
    unfold cmg wf0 wy
    rw [z3, z4, h4, h9, h12]
  have ht : ∀ b, tl e b i = tl d b i := fun b => by
    funext j
    match j with
    | 0 => show e 12 i = d 12 i; rw [h12]
    | 1 => show b - e 1 i = b - d 1 i; rw [h1]
    | 2 => rfl
    | 3 => show e 12 (24 + i) = d 12 (24 + i); rw [h12]
    | 4 => show e 4 i = d 4 i; rw [h4]
    | 5 => rfl
    | j + 6 => rfl
  have ho : ∀ b, ov cs e i b = ov cs d i b := fun b => by
    rw [ov_e, ov_e]
    unfold gv
    rw [z61, z52, h12, ht]
    by_cases c : stb (d 0 60) i = 1
    · rw [if_pos c, if_pos (hs.mpr c)]
    · rw [if_neg c, if_neg (fun q => c (hs.mp q))]
  unfold LD LB FC
  rw [hc, ho, h1, h2, h3, h5, h6, h8, h9, h12]
  exact h
/-- some run over, some don't -/
def rn0 (d : gT) (m : Int32) : gT := upd2 d 0 60 m
theorem rn0_k {d : gT} {m : Int32} {k : Nat} (h : k ≠ 0) : rn0 d m k = d k := funext fun _ => by unfold rn0; rw [upd2_nk h]
theorem rn0_j {d : gT} {m : Int32} {j : Nat} (h : j ≠ 60) : rn0 d m 0 j = d 0 j := by unfold rn0; rw [upd2_nj h]
theorem rn0_60 {d : gT} {m : Int32} : rn0 d m 0 60 = m := by unfold rn0; rw [upd2_at]
theorem wf_rn {n : Nat} {d : gT} {m : Int32} (hW : WF n d) : WF n (rn0 d m) := wf_e hW (rn0_k (by decide)) (rn0_k (by decide)) (rn0_k (by decide)) (rn0_k (by decide))
theorem ld_rn {cs : Nat → List Int} {d : gT} {m m' : Int32} {bg en ru by_ : Nat → Int32} {i : Nat} (hs : stb m' i = 1 ↔ stb m i = 1) (h : LD cs (rn0 d m) bg en ru by_ i) : LD cs (rn0 d m') bg en ru by_ i := by
  have kk : ∀ k, k ≠ 0 → rn0 d m' k = rn0 d m k := fun k a => by rw [rn0_k a, rn0_k a]
  exact ld_f (fun j hj => by rw [rn0_j (by omega), rn0_j (by omega)]) (by rw [rn0_60, rn0_60]; exact hs) (by rw [kk 1 (by decide)]) (by rw [kk 2 (by decide)]) (kk 3 (by decide)) (kk 4 (by decide)) (kk 5 (by decide)) (kk 6 (by decide)) (kk 8 (by decide)) (kk 9 (by decide)) (kk 12 (by decide)) h
theorem DC.run {cs : Nat → List Int} {n : Nat} {x m : Int32} {g d : gT} (h : DC cs n g d) (hx : ∀ i, i < n → (stb x i = 0 ↔ stb m i = 1)) : DC cs n (upd2 g 8 8 x) (rn0 d m) := by
  obtain ⟨a1, a3, a4, a5, a6, a7, a8, a9, a10⟩ := h
  have ek : ∀ k, k ≠ 8 → upd2 g 8 8 x k = g k := fun k hk => funext fun _ => upd2_nk hk
  refine ⟨by rw [ek 1 (by decide)]; exact a1, fun i hi => ⟨(a3 i hi).1.c (ek _ (by omega)) (ek _ (by omega)) (fun k x _ => rn0_k (by omega)), (a3 i hi).2.c (ek _ (by decide)) (ek _ (by decide)) (ek _ (by decide)) (ek _ (by decide)) (rn0_k (by decide))⟩, ?_, wf_rn a5, ?_, ?_, ?_, ?_, ?_⟩
  · rw [ek 1 (by decide), rn0_j (by decide), rn0_j (by decide)]; exact a4
  · rw [rn0_k (by decide), rn0_k (by decide)]; exact a6
  · rw [ek 6 (by decide), ek 3 (by decide), rn0_j (by decide)]; exact a7
  · rw [ek 3 (by decide), ek 20 (by decide), ek 19 (by decide)]; exact a8
  · rw [upd2_at, rn0_60]; exact hx
  · rw [upd2_nj (by decide), rn0_j (by decide)]; exact a10
theorem i32_nle {a b : Int32} (h : a < b) : ¬ b ≤ a := fun hh => by
  have := ic_lt.mp h
  have := ic_le.mp hh
  omega
theorem i32_nlt {a b : Int32} (h : ¬ a < b) : b ≤ a := ic_le.mpr (icc_nlt (m := a.toInt) (n := b.toInt) rfl rfl h)
/-- the draws -/
def dr (s : Int32) : Int32 := s * 1103515245 + 12345
def dv (s : Int32) : Int32 := ((s >>> ((16 : Int32) &&& (31 : Int32))) &&& (32767 : Int32)) - ((s >>> ((16 : Int32) &&& (31 : Int32))) &&& (32767 : Int32)) / 10 * 10
theorem b15 : ∀ i : Nat, i < 32 → (32767#32).getLsbD i = decide (i < 15) := by decide
theorem sh16 {s : Int32} : (Int32.toUInt32 s >>> (Int32.toUInt32 16 &&& Int32.toUInt32 31)).toInt32 &&& 32767 = (s >>> ((16 : Int32) &&& (31 : Int32))) &&& (32767 : Int32) := by
  refine Int32.toBitVec_inj.mp ?_
  rw [Int32.toBitVec_and, Int32.toBitVec_and]
  have l : (Int32.toUInt32 s >>> (Int32.toUInt32 16 &&& Int32.toUInt32 31)).toInt32.toBitVec = s.toBitVec >>> 16 := rfl
  have r : (s >>> ((16 : Int32) &&& 31)).toBitVec = s.toBitVec.sshiftRight 16 := rfl
  have k : (32767 : Int32).toBitVec = 32767#32 := rfl
  rw [l, r, k]
  refine BitVec.eq_of_getLsbD_eq (fun i hi => ?_)
  rw [BitVec.getLsbD_and, BitVec.getLsbD_and, BitVec.getLsbD_ushiftRight, BitVec.getLsbD_sshiftRight, b15 i hi]
  by_cases c : i < 15
  · rw [if_pos (show 16 + i < 32 by omega), decide_eq_false (show ¬ 32 ≤ i by omega)]
    rfl
  · rw [decide_eq_false c, Bool.and_false, Bool.and_false]
/-- the seed when i lessons have drawn; who runs over -/
def sdd (d : gT) (s : Int32) : Nat → Int32
  | 0 => s
  | i + 1 => if d 7 i = 10 then sdd d s i else dr (sdd d s i)
def rns (d : gT) (s : Int32) (i : Nat) : Prop := d 7 i = 10 ∨ ¬ d 7 i ≤ dv (dr (sdd d s i))
theorem ten_x {fu : Nat} {g : gT} {L : lT} : Pc (fX0_drawOfTen_11 fu g L) (fun x g1 _ => g1 = upd2 g 11 4 (dr (g 11 4)) ∧ x = dv (dr (g 11 4))) := by
  unfold fX0_drawOfTen_11
  refine pc_st (fun g1 e1 => pc_cnz (pc_some ⟨e1, ?_⟩))
  rw [sh16, e1, upd2_at]; rfl
theorem draw_x {cs : Nat → List Int} {n fu : Nat} {g d : gT} {L : lT} {s : Int32} (h : DC cs n g d) (h7 : ∀ i, i < n → g (57 + i) 12 = d 7 i) (hs : g 11 4 = s) : Pc (fX0_drawRunning_11 fu g L) (fun x g1 _ => (∀ k, k ≠ 11 → g1 k = g k) ∧ g1 11 4 = sdd d s n ∧ ∀ o, o < n → (tbi x o = true ↔ rns d s o)) := by
  have hn := h.1
  have n12 := h.1.2
  unfold fX0_drawRunning_11 fX0_drawRunning_11_l4
  refine pc_loop (fun v => ∃ i : Nat, v.2.1.toInt = (i : Int) ∧ i ≤ n ∧ (∀ k, k ≠ 11 → v.2.2.1 k = g k) ∧ v.2.2.1 11 4 = sdd d s i ∧ ∀ o, o < n → (tbi v.1 o = true ↔ (o < i ∧ rns d s o))) (fun k4 hk v hv => ?_) ⟨0, rfl, by omega, fun _ _ => rfl, hs, fun o ho => ⟨fun q => by
    have q : tbi 0 o = true := q
    rw [tb_0] at q; exact absurd q (by decide), fun q => absurd q.1 (Nat.not_lt_zero _)⟩⟩
  obtain ⟨v1, v2, g', L'⟩ := v
  obtain ⟨i, hi, ni, ek, es, hb⟩ := hv
  replace hi : v2.toInt = (i : Int) := hi
  replace ek : ∀ k, k ≠ 11 → g' k = g k := ek
  replace es : g' 11 4 = sdd d s i := es
  replace hb : ∀ o, o < n → (tbi v1 o = true ↔ (o < i ∧ rns d s o)) := hb
  show Pc (fX0_drawRunning_11_s4 fu k4 v1 v2 g' L') _
  unfold fX0_drawRunning_11_s4 fX0_drawRunning_11_p48 fX0_drawRunning_11_p54
  have e12 : (g' 1 2).toInt = (n : Int) := by rw [ek 1 (by decide)]; exact hn.1
  have ei : v2.toNatClampNeg = i := by rw [nc, hi]; omega
  have vi : v2 = Int32.ofInt (i : Int) := by rw [← hi]; exact io_i.symm
  refine pc_ite (fun c => pc_some ⟨ek, ?_, fun o ho => ?_⟩) (fun c => ?_)
  · have c := icc_le e12 hi c
    rw [es, show i = n by omega]
  · have c := icc_le e12 hi c
    exact (hb o ho).trans ⟨fun q => q.2, fun q => ⟨by omega, q⟩⟩
  have c := icc_nle e12 hi c
  have ew : (v2 + 1).toInt = ((i + 1 : Nat) : Int) := by rw [ic_addc hi (n := 1) rfl (by omega) (by omega)]; omega
  rw [ei, show i % 12 = i by omega]
  refine pc_ck (fun _ _ => pc_ltn (fun q eq => ?_))
  subst eq
  refine pc_lti (fun x3 e3 => ?_)
  have d3 : x3 = d 7 i := by rw [e3, ek (57 + i) (by omega)]; exact h7 i (by omega)
  have bit : rns d s i → ∀ o, o < n → (tbi (v1 ||| ((1 : Int32) <<< (v2 &&& 31))) o = true ↔ (o < i + 1 ∧ rns d s o)) := fun hr o ho => by
    rw [tb_or, vi, tb_s i (by omega) o (by omega)]
    by_cases q : i = o
    · rw [decide_eq_true q, Bool.or_true]
      exact ⟨fun _ => ⟨by omega, by rw [← q]; exact hr⟩, fun _ => rfl⟩
    · rw [decide_eq_false q, Bool.or_false]
      exact (hb o ho).trans ⟨fun w => ⟨by omega, w.2⟩, fun w => ⟨by omega, w.2⟩⟩
  have nob : ¬ rns d s i → ∀ o, o < n → (tbi v1 o = true ↔ (o < i + 1 ∧ rns d s o)) := fun hr o ho =>
    (hb o ho).trans ⟨fun w => ⟨by omega, w.2⟩, fun w => ⟨by
      by_cases q : o = i
      · rw [q] at w; exact absurd w.2 hr
      · omega, w.2⟩⟩
  refine pc_ite (fun c1 => pc_lti (fun x4 e4 => hk _ ⟨i + 1, ew, by omega, ek, ?_, ?_⟩)) (fun c1 => pc_cb ten_x (fun x6 g7 L8 q => ?_))
  · show g' 11 4 = if d 7 i = 10 then _ else _
    rw [if_pos (by rw [← d3]; exact c1)]; exact es
  · show ∀ o, o < n → (tbi x4 o = true ↔ _)
    rw [e4]; exact bit (Or.inl (by rw [← d3]; exact c1))
  · obtain ⟨q1, q2⟩ := q
    rw [es] at q1 q2
    have c1' : ¬ d 7 i = 10 := by rw [← d3]; exact c1
    have k7 : ∀ k, k ≠ 11 → g7 k = g k := fun k hk => by rw [q1, ← ek k hk]; exact funext fun _ => upd2_nk hk
    have s7 : g7 11 4 = sdd d s (i + 1) := by
      show g7 11 4 = if d 7 i = 10 then _ else _
      rw [if_neg c1', q1, upd2_at]
    rw [d3, q2]
    refine pc_ite (fun c2 => hk _ ⟨i + 1, ew, by omega, k7, s7, nob (fun hr => ?_)⟩) (fun c2 => pc_lti (fun x4 e4 => hk _ ⟨i + 1, ew, by omega, k7, s7, ?_⟩))
    · rcases hr with hr | hr
      · exact c1' hr
      · exact hr c2
    · show ∀ o, o < n → (tbi x4 o = true ↔ _)
      rw [e4]; exact bit (Or.inr c2)
/-- a day on which just these run over: what is lost, how late l is -/
def TD (cs : Nat → List Int) (n : Nat) (d : gT) (R : Nat → Prop) (l : Nat) (v t : Int32) : Prop := ∃ m bg en ru by_, (∀ i, i < n → (stb m i = 1 ↔ ¬ R i)) ∧ DY cs (rn0 d m) n bg en ru by_ ∧ v = fo (fLost d en) n ∧ t = en l - d 2 l
theorem TD.u {cs : Nat → List Int} {n l : Nat} {d : gT} {R : Nat → Prop} {v t v' t' : Int32} (hW : WF n d) (ln : l < n) (h : TD cs n d R l v t) (h' : TD cs n d R l v' t') : v = v' ∧ t = t' := by
  obtain ⟨m1, b1, e1, r1, y1, k1, h1, u1, w1⟩ := h
  obtain ⟨m2, b2, e2, r2, y2, k2, h2, u2, w2⟩ := h'
  have h2' : DY cs (rn0 d m1) n b2 e2 r2 y2 := fun i hi => ld_rn ((k1 i hi).trans (k2 i hi).symm) (h2 i hi)
  have u := DY.u (wf_rn hW) h1 h2'
  refine ⟨?_, by rw [w1, w2, (u l ln).2.1]⟩
  rw [u1, u2]
  exact fo_c (fun i hi a => by unfold fLost; rw [(u i hi).2.1])
/-- so many days: together, at most, on how many late -/
def TT (cs : Nat → List Int) (n : Nat) (d : gT) (l : Nat) (s : Int32) : Nat → Int32 → Int32 → Int32 → Int32 → Prop
  | 0, z, a, b, c => z = s ∧ a = 0 ∧ b = 0 ∧ c = 0
  | k + 1, z, a, b, c => ∃ z' a' b' c' v t, TT cs n d l s k z' a' b' c' ∧ TD cs n d (rns d z') l v t ∧ z = sdd d z' n ∧ a = a' + v ∧ b = (if b' < v then v else b') ∧ c = c' + (if t ≤ 0 then 0 else 1)
theorem TT.u {cs : Nat → List Int} {n l : Nat} {d : gT} {s : Int32} (hW : WF n d) (ln : l < n) : ∀ (k : Nat) {z a b c z' a' b' c' : Int32}, TT cs n d l s k z a b c → TT cs n d l s k z' a' b' c' → z = z' ∧ a = a' ∧ b = b' ∧ c = c' := by
  intro k
  induction k with
  | zero =>
    intro z a b c z' a' b' c' h h'
    obtain ⟨x1, x2, x3, x4⟩ := h
    obtain ⟨y1, y2, y3, y4⟩ := h'
    exact ⟨by rw [x1, y1], by rw [x2, y2], by rw [x3, y3], by rw [x4, y4]⟩
  | succ k ih =>
    intro z a b c z' a' b' c' h h'
    obtain ⟨z1, a1, b1, c1, v1, t1, h1, h2, x1, x2, x3, x4⟩ := h
    obtain ⟨z2, a2, b2, c2, v2, t2, g1, g2, y1, y2, y3, y4⟩ := h'
    obtain ⟨rfl, rfl, rfl, rfl⟩ := ih h1 g1
    obtain ⟨rfl, rfl⟩ := TD.u hW ln h2 g2
    exact ⟨by rw [x1, y1], by rw [x2, y2], by rw [x3, y3], by rw [x4, y4]⟩
theorem term_x {cs : Nat → List Int} {n l D fu : Nat} {p1 p2 p3 p4 : Int32} {g d : gT} {L : lT} (h : DC cs n g d) (h7 : ∀ i, i < n → g (57 + i) 12 = d 7 i) (hl : p3.toInt = (l : Int)) (ln : l < n) (hD : p2.toInt = (D : Int)) (d60 : D ≤ 60) : Pc (fX0_ofTerm_11 fu p1 p2 p3 p4 g L) (fun x _ _ => ∃ z a b c, TT cs n d l p1 D z a b c ∧ x = if p4 = 0 then a else if p4 = 1 then b else c) := by
  have hW := h.2.2.2.1
  have n12 := h.1.2
  unfold fX0_ofTerm_11
  refine pc_st (fun g1 e1 => ?_)
  have k1 : ∀ k, k ≠ 11 → g1 k = g k := fun k hk => by rw [e1]; exact funext fun _ => upd2_nk hk
  unfold fX0_ofTerm_11_l17
  refine pc_loop (fun v => ∃ k : Nat, v.2.2.2.1.toInt = (k : Int) ∧ k ≤ D ∧ (∀ k, k ≠ 8 → k ≠ 11 → k ≠ 21 → (k < 43 ∨ 48 < k) → v.2.2.2.2.1 k = g k) ∧ (∀ j, j ≠ 8 → v.2.2.2.2.1 8 j = g 8 j) ∧ TT cs n d l p1 k (v.2.2.2.2.1 11 4) v.1 v.2.1 v.2.2.1) (fun k17 hk v hv => ?_) ⟨0, rfl, by omega, fun k _ a _ _ => k1 k a, fun j _ => by show g1 8 j = _; rw [k1 8 (by decide)], ⟨by show g1 11 4 = p1; rw [e1, upd2_at], rfl, rfl, rfl⟩⟩
  obtain ⟨v5, v6, v7, v8, g', L'⟩ := v
  obtain ⟨k, hkk, kD, ek, e8, ht⟩ := hv
  replace hkk : v8.toInt = (k : Int) := hkk
  replace ek : ∀ k, k ≠ 8 → k ≠ 11 → k ≠ 21 → (k < 43 ∨ 48 < k) → g' k = g k := ek
  replace e8 : ∀ j, j ≠ 8 → g' 8 j = g 8 j := e8
  replace ht : TT cs n d l p1 k (g' 11 4) v5 v6 v7 := ht
  show Pc (fX0_ofTerm_11_s17 fu p2 p3 p4 k17 v5 v6 v7 v8 g' L') _
  unfold fX0_ofTerm_11_s17 fX0_ofTerm_11_p116
  refine pc_ite (fun c => pc_st (fun g3 e3 => ?_)) (fun c => ?_)
  · have c := icc_le hD hkk c
    rw [show k = D by omega] at ht
    refine pc_ite (fun c0 => pc_some ⟨_, _, _, _, ht, ?_⟩) (fun c0 => pc_ite (fun c1 => pc_some ⟨_, _, _, _, ht, ?_⟩) (fun c1 => pc_some ⟨_, _, _, _, ht, ?_⟩))
    · rw [if_pos c0]
    · rw [if_neg c0, if_pos c1]
    · rw [if_neg c0, if_neg c1]
  have c := icc_nle hD hkk c
  have ew : (v8 + 1).toInt = ((k + 1 : Nat) : Int) := by rw [ic_addc hkk (n := 1) rfl (by omega) (by omega)]; omega
  -- the base: who runs over aside, all is as it was
  have base : ∀ (x m : Int32) (gz : gT), (∀ k, k ≠ 8 → k ≠ 11 → k ≠ 21 → (k < 43 ∨ 48 < k) → gz k = g k) → (∀ j, j ≠ 8 → gz 8 j = g 8 j) → gz 8 8 = x → (∀ i, i < n → (stb x i = 0 ↔ stb m i = 1)) → DC cs n gz (rn0 d m) := fun x m gz a b c e => (h.run e).c3 (fun k q => by
    by_cases k8 : k = 8
    · subst k8
      funext j
      by_cases j8 : j = 8
      · rw [j8, c, upd2_at]
      · rw [b j j8, upd2_nj j8]
    · rw [a k k8 (by omega) (by omega) (by omega)]
      exact funext fun _ => (upd2_nk k8).symm)
  have hD0 : DC cs n g' (rn0 d (g' 8 8 ^^^ -1)) := base (g' 8 8) _ g' ek e8 rfl (fun i hi => by
    rw [stb_0i (by omega), stb_1i (by omega), tb_n1x (by omega)]
    cases tbi (g' 8 8) i <;> decide)
  refine pc_cb (draw_x (d := rn0 d (g' 8 8 ^^^ -1)) hD0 (fun i hi => by rw [ek (57 + i) (by omega) (by omega) (by omega) (by omega), rn0_k (by decide)]; exact h7 i hi) rfl) (fun x6 g7 L8 q => ?_)
  obtain ⟨q1, q2, q3⟩ := q
  have es : ∀ i, sdd (rn0 d (g' 8 8 ^^^ -1)) (g' 11 4) i = sdd d (g' 11 4) i := fun i => by
    induction i with
    | zero => rfl
    | succ i ih =>
      show (if rn0 d (g' 8 8 ^^^ -1) 7 i = 10 then _ else _) = if d 7 i = 10 then _ else _
      rw [rn0_k (by decide), ih]
  have q3' : ∀ o, o < n → (tbi x6 o = true ↔ rns d (g' 11 4) o) := fun o ho => by
    have a := q3 o ho
    unfold rns at a ⊢
    rw [rn0_k (by decide), es] at a
    exact a
  rw [es] at q2
  refine pc_st (fun g10 e10 => ?_)
  have k10 : ∀ k, k ≠ 8 → k ≠ 11 → k ≠ 21 → (k < 43 ∨ 48 < k) → g10 k = g k := fun k a b c e => by
    rw [e10, ← ek k a b c e, ← q1 k b]; exact funext fun _ => upd2_nk a
  have j10 : ∀ j, j ≠ 8 → g10 8 j = g 8 j := fun j hj => by rw [e10, upd2_nj hj, q1 8 (by decide)]; exact e8 j hj
  have x10 : g10 8 8 = x6 := by rw [e10, upd2_at]
  have mk : ∀ i, i < n → (stb (x6 ^^^ -1) i = 1 ↔ ¬ rns d (g' 11 4) i) := fun i hi => by
    rw [stb_1i (by omega), tb_n1x (by omega), ← q3' i hi]
    cases tbi x6 i <;> decide
  have hD10 : DC cs n g10 (rn0 d (x6 ^^^ -1)) := base x6 _ g10 k10 j10 x10 (fun i hi => by
    rw [stb_0i (by omega), stb_1i (by omega), tb_n1x (by omega)]
    cases tbi x6 i <;> decide)
  refine pc_cb (lf_x hD10 (f := 0) rfl (Nat.zero_le _)) (fun x11 g12 L13 e12 => ?_)
  obtain ⟨⟨r1, -, r3⟩, u11⟩ := e12
  refine pc_lti (fun x15 e15 => pc_lti (fun x16 e16 => pc_cb (late_x (hD10.c r3) hl ln) (fun x17 g18 L19 e17 => ?_)))
  obtain ⟨rfl, e17⟩ := e17
  rw [rn0_k (by decide)] at e17
  have fl : fLost (rn0 d (x6 ^^^ -1)) (g18 44) = fLost d (g18 44) := by
    funext i a
    unfold fLost
    rw [rn0_k (by decide), rn0_k (by decide)]
  rw [fl] at u11
  have td : TD cs n d (rns d (g' 11 4)) l x11 x17 := ⟨_, _, _, _, _, mk, fun i hi => r1 i (Nat.zero_le _) hi, u11, e17⟩
  have s18 : g18 11 4 = sdd d (g' 11 4) n := by rw [r3 11 (by decide) (by omega), e10, upd2_nk (by decide)]; exact q2
  have fin : ∀ (t : Int32) (La : lT), t = (if x17 ≤ 0 then 0 else 1) → Pc (fX0_ofTerm_11_p78 fu k17 p2 p3 p4 x15 x16 v8 t v7 g18 La) (fun x _ _ => ∃ z a b c, TT cs n d l p1 D z a b c ∧ x = if p4 = 0 then a else if p4 = 1 then b else c) := by
    intro t La ht'
    unfold fX0_ofTerm_11_p78
    refine pc_lti (fun x21 e21 => hk _ ⟨k + 1, ew, by omega, fun k a b c e => ?_, fun j hj => ?_, ?_⟩)
    · show g18 k = g k
      rw [r3 k c e, k10 k a b c e]
    · show g18 8 j = g 8 j
      rw [r3 8 (by decide) (by omega), j10 j hj]
    · exact ⟨_, _, _, _, _, _, ht, td, s18, e15, e16, by rw [← ht']; exact e21⟩
  refine pc_ite (fun c2 => fin _ _ ?_) (fun c2 => fin _ _ ?_)
  · rw [if_pos c2]
  · rw [if_neg c2]
theorem draw_m {fu : Nat} {g : gT} {L : lT} : Pc (fX12_draw fu 10 g L) (fun x g1 _ => g1 = upd2 g 0 80 (dr (g 0 80)) ∧ x = dv (dr (g 0 80))) := by
  unfold fX12_draw
  refine pc_st (fun g1 e1 => pc_cnz (pc_some ⟨e1, ?_⟩))
  rw [e1, upd2_at]; rfl
theorem term_m {cs : Nat → List Int} {n l D fu : Nat} {p1 p2 p3 p4 : Int32} {g d : gT} {L : lT} (hM : MD cs n d) (hl : p3.toInt = (l : Int)) (ln : l < n) (hD : p2.toInt = (D : Int)) (d60 : D ≤ 60) (ek : ∀ k, k ≠ 0 → k < 29 → g k = d k) (e0 : ∀ j, j ≠ 60 → j ≠ 80 → g 0 j = d 0 j) (e80 : g 0 80 = p1) : Pc (fX12_term_l57 fu p2 p3 p4 0 0 0 0 g L) (fun x g1 _ => g1 0 0 = d 0 0 ∧ ∃ z a b c, TT cs n d l p1 D z a b c ∧ x = if p4 = 0 then a else if p4 = 1 then b else c) := by
  have hW := hM.2.1
  have n12 := hM.1.2
  unfold fX12_term_l57
  refine pc_loop (fun v => ∃ k : Nat, v.2.2.2.1.toInt = (k : Int) ∧ k ≤ D ∧ (∀ k, k ≠ 0 → k < 29 → v.2.2.2.2.1 k = d k) ∧ (∀ j, j ≠ 60 → j ≠ 80 → v.2.2.2.2.1 0 j = d 0 j) ∧ TT cs n d l p1 k (v.2.2.2.2.1 0 80) v.1 v.2.1 v.2.2.1) (fun k57 hk v hv => ?_) ⟨0, rfl, by omega, ek, e0, ⟨e80, rfl, rfl, rfl⟩⟩
  obtain ⟨v5, v6, v7, v8, g', L'⟩ := v
  obtain ⟨k, hkk, kD, ek, e0, ht⟩ := hv
  replace hkk : v8.toInt = (k : Int) := hkk
  replace ek : ∀ k, k ≠ 0 → k < 29 → g' k = d k := ek
  replace e0 : ∀ j, j ≠ 60 → j ≠ 80 → g' 0 j = d 0 j := e0
  replace ht : TT cs n d l p1 k (g' 0 80) v5 v6 v7 := ht
  show Pc (fX12_term_s57 fu p2 p3 p4 k57 v5 v6 v7 v8 g' L') _
  unfold fX12_term_s57 fX12_term_p208
  refine pc_ite (fun c => pc_st (fun g23 e23 => ?_)) (fun c => pc_st (fun g26 e26 => ?_))
  · have c := icc_le hD hkk c
    rw [show k = D by omega] at ht
    have z : g23 0 0 = d 0 0 := by rw [e23, upd2_nj (by decide)]; exact e0 0 (by decide) (by decide)
    refine pc_ite (fun c0 => pc_some ⟨z, _, _, _, _, ht, ?_⟩) (fun c0 => pc_ite (fun c1 => pc_some ⟨z, _, _, _, _, ht, ?_⟩) (fun c1 => pc_some ⟨z, _, _, _, _, ht, ?_⟩))
    · rw [if_pos c0]
    · rw [if_neg c0, if_pos c1]
    · rw [if_neg c0, if_neg c1]
  have c := icc_nle hD hkk c
  have ew : (v8 + 1).toInt = ((k + 1 : Nat) : Int) := by rw [ic_addc hkk (n := 1) rfl (by omega) (by omega)]; omega
  have k26 : ∀ k, k ≠ 0 → k < 29 → g26 k = d k := fun k a b => by rw [e26, ← ek k a b]; exact funext fun _ => upd2_nk a
  have j26 : ∀ j, j ≠ 60 → j ≠ 80 → g26 0 j = d 0 j := fun j a b => by rw [e26, upd2_nj a]; exact e0 j a b
  have s26 : g26 0 80 = g' 0 80 := by rw [e26, upd2_nj (by decide)]
  have z26 : g26 0 60 = 0 := by rw [e26, upd2_at]
  unfold fX12_term_l71
  refine pc_loop (fun v => ∃ i : Nat, v.1.toInt = (i : Int) ∧ i ≤ n ∧ (∀ k, k ≠ 0 → k < 29 → v.2.1 k = d k) ∧ (∀ j, j ≠ 60 → j ≠ 80 → v.2.1 0 j = d 0 j) ∧ v.2.1 0 80 = sdd d (g' 0 80) i ∧ ∀ o, o < n → (tbi (v.2.1 0 60) o = true ↔ (o < i ∧ ¬ rns d (g' 0 80) o))) (fun k71 hk2 v hv => ?_) ⟨0, rfl, by omega, k26, j26, s26, fun o ho => ⟨fun q => by
    have q : tbi (g26 0 60) o = true := q
    rw [z26, tb_0] at q; exact absurd q (by decide), fun q => absurd q.1 (Nat.not_lt_zero _)⟩⟩
  obtain ⟨v9, g4, L4⟩ := v
  obtain ⟨i, hi, ni, ek4, e04, es, hb⟩ := hv
  replace hi : v9.toInt = (i : Int) := hi
  replace ek4 : ∀ k, k ≠ 0 → k < 29 → g4 k = d k := ek4
  replace e04 : ∀ j, j ≠ 60 → j ≠ 80 → g4 0 j = d 0 j := e04
  replace es : g4 0 80 = sdd d (g' 0 80) i := es
  replace hb : ∀ o, o < n → (tbi (g4 0 60) o = true ↔ (o < i ∧ ¬ rns d (g' 0 80) o)) := hb
  show Pc (fX12_term_s71 fu k57 p2 p3 p4 v5 v6 v7 v8 k71 v9 g4 L4) _
  unfold fX12_term_s71
  have e01 : (g4 0 1).toInt = (n : Int) := by rw [e04 1 (by decide) (by decide)]; exact hM.1.1
  have ei : v9.toNatClampNeg = i := by rw [nc, hi]; omega
  have vi : v9 = Int32.ofInt (i : Int) := by rw [← hi]; exact io_i.symm
  refine pc_ite (fun c1 => ?_) (fun c1 => ?_)
  · have c1 := icc_le e01 hi c1
    have em : i = n := by omega
    rw [em] at es
    have hM4 : MD cs n g4 := by
      unfold MD WF
      rw [ek4 5 (by decide) (by omega), ek4 6 (by decide) (by omega), ek4 8 (by decide) (by omega), ek4 9 (by decide) (by omega), ek4 10 (by decide) (by omega), ek4 11 (by decide) (by omega), e04 1 (by decide) (by decide), e04 52 (by decide) (by decide)]
      exact hM
    have ldc : ∀ bg en ru by_, ∀ i, i < n → LD cs g4 bg en ru by_ i → LD cs (rn0 d (g4 0 60)) bg en ru by_ i := fun bg en ru by_ i hi hL => ld_f (fun j hj => by rw [rn0_j (by omega), e04 j (by omega) (by omega)]) (by rw [rn0_60]) (by rw [rn0_k (by decide), ek4 1 (by decide) (by omega)]) (by rw [rn0_k (by decide), ek4 2 (by decide) (by omega)]) (by rw [rn0_k (by decide), ek4 3 (by decide) (by omega)]) (by rw [rn0_k (by decide), ek4 4 (by decide) (by omega)]) (by rw [rn0_k (by decide), ek4 5 (by decide) (by omega)]) (by rw [rn0_k (by decide), ek4 6 (by decide) (by omega)]) (by rw [rn0_k (by decide), ek4 8 (by decide) (by omega)]) (by rw [rn0_k (by decide), ek4 9 (by decide) (by omega)]) (by rw [rn0_k (by decide), ek4 12 (by decide) (by omega)]) hL
    have key : Pc (fX12_lost fu g4 L4) (fun x g1 _ => WR cs g4 n g1 ∧ x = fo (fLost g4 (g1 32)) n) := by
      unfold fX12_lost
      exact pc_cb (wk_m hM4) (fun _ gz Lz e => pc_mo (lost_m e.2 hM4.1.1 n12) (fun x gy _ q => by rw [q.1]; exact ⟨e, q.2⟩))
    refine pc_cb key (fun x28 g29 L30 q => ?_)
    obtain ⟨⟨w1, w2⟩, q2⟩ := q
    have fl : fLost g4 (g29 32) = fLost d (g29 32) := by
      funext i a
      unfold fLost
      rw [ek4 4 (by decide) (by omega), ek4 2 (by decide) (by omega)]
    rw [fl] at q2
    have mk : ∀ i, i < n → (stb (g4 0 60) i = 1 ↔ ¬ rns d (g' 0 80) i) := fun i' hi' => by
      rw [stb_1i (by omega), hb i' hi']
      exact ⟨fun q => q.2, fun q => ⟨by omega, q⟩⟩
    have dy : DY cs (rn0 d (g4 0 60)) n (g29 31) (g29 32) (g29 33) (g29 34) := fun i hi => ldc _ _ _ _ i hi (w1 i hi)
    have ek29 : ∀ k, k ≠ 0 → k < 29 → g29 k = d k := fun k a b => (w2 k (by omega)).trans (ek4 k a b)
    have e29 : ∀ j, j ≠ 60 → j ≠ 80 → g29 0 j = d 0 j := fun j a b => by rw [w2 0 (by omega)]; exact e04 j a b
    have s29 : g29 0 80 = sdd d (g' 0 80) n := by rw [w2 0 (by omega)]; exact es
    have fin : ∀ (x16 : Int32) (La : lT), x16 = (if v6 < x28 then x28 else v6) → Pc (fX12_term_p154 fu k57 p2 p3 p4 (v5 + x28) v7 v8 x16 g29 La) (fun x g1 _ => g1 0 0 = d 0 0 ∧ ∃ z a b c, TT cs n d l p1 D z a b c ∧ x = if p4 = 0 then a else if p4 = 1 then b else c) := by
      intro x16 La h16
      unfold fX12_term_p154 fX12_term_p171
      refine pc_cb (late_m (d := g29) (fun _ _ => rfl) hl) (fun x33 g34 L35 e33 => ?_)
      obtain ⟨rfl, e33⟩ := e33
      rw [ek29 2 (by decide) (by omega)] at e33
      have td : TD cs n d (rns d (g' 0 80)) l x28 x33 := ⟨_, _, _, _, _, mk, dy, q2, e33⟩
      have fin2 : ∀ (t : Int32) (Lb : lT), t = (if x33 ≤ 0 then 0 else 1) → Pc (lti (v7 + t) (fun x37 => k57 (v5 + x28, x16, x37, (v8 + 1), g34, Lb))) (fun x g1 _ => g1 0 0 = d 0 0 ∧ ∃ z a b c, TT cs n d l p1 D z a b c ∧ x = if p4 = 0 then a else if p4 = 1 then b else c) := fun t Lb ht' => pc_lti (fun x37 e37 => hk _ ⟨k + 1, ew, by omega, ek29, e29, ⟨_, _, _, _, _, _, ht, td, s29, rfl, h16, by rw [← ht']; exact e37⟩⟩)
      refine pc_ite (fun c2 => fin2 _ _ ?_) (fun c2 => fin2 _ _ ?_)
      · rw [if_pos c2]
      · rw [if_neg c2]
    refine pc_lti (fun x32 e32 => ?_)
    rw [e32]
    refine pc_ite (fun c2 => fin _ _ ?_) (fun c2 => fin _ _ ?_)
    · have c2 := ic_le.mp c2
      rw [if_neg (fun hh => by have := ic_lt.mp hh; omega)]
    · have c2 := icc_nle (m := x28.toInt) (n := v6.toInt) rfl rfl c2
      rw [if_pos (ic_lt.mpr c2)]
  have c1 := icc_nle e01 hi c1
  have ewi : (v9 + 1).toInt = ((i + 1 : Nat) : Int) := by rw [ic_addc hi (n := 1) rfl (by omega) (by omega)]; omega
  unfold fX12_term_p121
  have nob : rns d (g' 0 80) i → ∀ o, o < n → (tbi (g4 0 60) o = true ↔ (o < i + 1 ∧ ¬ rns d (g' 0 80) o)) := fun hr o ho =>
    (hb o ho).trans ⟨fun w => ⟨by omega, w.2⟩, fun w => ⟨by
      by_cases q : o = i
      · rw [q] at w; exact absurd hr w.2
      · omega, w.2⟩⟩
  have bit : ¬ rns d (g' 0 80) i → ∀ o, o < n → (tbi (g4 0 60 ||| ((1 : Int32) <<< (v9 &&& 31))) o = true ↔ (o < i + 1 ∧ ¬ rns d (g' 0 80) o)) := fun hr o ho => by
    rw [tb_or, vi, tb_s i (by omega) o (by omega)]
    by_cases q : i = o
    · rw [decide_eq_true q, Bool.or_true]
      exact ⟨fun _ => ⟨by omega, by rw [← q]; exact hr⟩, fun _ => rfl⟩
    · rw [decide_eq_false q, Bool.or_false]
      exact (hb o ho).trans ⟨fun w => ⟨by omega, w.2⟩, fun w => ⟨by omega, w.2⟩⟩
  rw [ei, ek4 7 (by decide) (by omega)]
  refine pc_ck (fun _ _ => pc_ite (fun c2 => hk2 _ ⟨i + 1, ewi, by omega, ek4, e04, ?_, nob (Or.inl c2)⟩) (fun c2 => pc_cb draw_m (fun x41 g42 L43 q => ?_)))
  · show g4 0 80 = if d 7 i = 10 then _ else _
    rw [if_pos c2]; exact es
  obtain ⟨q1, q2⟩ := q
  rw [es] at q1 q2
  have ek42 : ∀ k, k ≠ 0 → k < 29 → g42 k = d k := fun k a b => by rw [q1, ← ek4 k a b]; exact funext fun _ => upd2_nk a
  have e42 : ∀ j, j ≠ 60 → j ≠ 80 → g42 0 j = d 0 j := fun j a b => by rw [q1, upd2_nj b]; exact e04 j a b
  have s42 : g42 0 80 = sdd d (g' 0 80) (i + 1) := by
    show g42 0 80 = if d 7 i = 10 then _ else _
    rw [if_neg c2, q1, upd2_at]
  have z42 : g42 0 60 = g4 0 60 := by rw [q1, upd2_nj (by decide)]
  rw [ek42 7 (by decide) (by omega), q2]
  refine pc_ck (fun _ _ => pc_ite (fun c3 => hk2 _ ⟨i + 1, ewi, by omega, ek42, e42, s42, ?_⟩) (fun c3 => pc_st (fun g46 e46 => hk2 _ ⟨i + 1, ewi, by omega, fun k a b => ?_, fun j a b => ?_, ?_, ?_⟩)))
  · show ∀ o, o < n → (tbi (g42 0 60) o = true ↔ _)
    rw [z42]
    exact nob (Or.inr (fun hh => i32_nle c3 hh))
  · show g46 k = d k
    rw [e46, ← ek42 k a b]; exact funext fun _ => upd2_nk a
  · show g46 0 j = d 0 j
    rw [e46, upd2_nj a]; exact e42 j a b
  · show g46 0 80 = _
    rw [e46, upd2_nj (by decide)]; exact s42
  · show ∀ o, o < n → (tbi (g46 0 60) o = true ↔ _)
    rw [e46, upd2_at, z42]
    refine bit (fun hr => ?_)
    rcases hr with hr | hr
    · exact c2 hr
    · exact hr (i32_nlt c3)
theorem cr_term {fu : Nat} {p1 p2 p3 p4 : Int32} {g gm g1 g2 : gT} {L Lm L1 L2 : lT} {rx : Except String Int32} {rm : Int32} (hS : CS g gm) (e1 : fX11_term_0 fu p1 p2 p3 p4 g L = some (rx, (g1, L1))) (e2 : fX12_term fu p1 p2 p3 p4 gm Lm = some (rm, (g2, L2))) : (rx = .ok rm ∧ g2 0 0 = 0) ∨ (rx = .error NSE ∧ g2 0 0 = 1) ∨ (rx = .error IAE ∧ g2 0 0 = 2) := by
  have h := hS.1
  have hp := h.1.1
  have hI := hp.2.1
  obtain ⟨k1, -⟩ := hp.2.2.2.2.2.2.1
  have r1 := hI 0 1 0 12 rfl
  have a0 : upd2 gm 0 0 0 0 0 = 0 := upd2_at
  have a1 : upd2 gm 0 0 0 0 1 = gm 0 1 := rfl
  unfold fX11_term_0 at e1
  unfold fX12_term fX12_term_p38 at e2
  unfold sti at e2
  have e2 : cb (fX12_isLesson fu p3 (upd2 gm 0 0 0) Lm) _ = some (rm, (g2, L2)) := e2
  by_cases c1 : isL (gm 0 1) p3
  rotate_left
  · rw [xneed0 (by rw [k1]; exact c1)] at e1
    have e1 : some (.error NSE, (g, L)) = some (rx, (g1, L1)) := e1
    rw [lesson0 a0 (by rw [a1]; exact c1)] at e2
    have e2 : some ((0 : Int32), (upd2 (upd2 gm 0 0 0) 0 0 1, Lm)) = some (rm, (g2, L2)) := e2
    cases e1; cases e2
    exact Or.inr (Or.inl ⟨rfl, upd2_at⟩)
  rw [xneed1 (by rw [k1]; exact c1), cbxs] at e1
  rw [lesson1 a0 (by rw [a1]; exact c1), cbs, if_neg (by decide)] at e2
  have i3 : (3 : Int32).toInt = 3 := rfl
  have i2 : (2 : Int32).toInt = 2 := rfl
  by_cases c2 : 0 ≤ p4.toInt ∧ p4.toInt ≤ (2 : Int32).toInt
  rotate_left
  · rw [xwhat0 (fun hh => c2 (by omega))] at e1
    have e1 : some (.error NSE, (g, L)) = some (rx, (g1, L1)) := e1
    rw [what0 a0 c2] at e2
    have e2 : some ((0 : Int32), (upd2 (upd2 gm 0 0 0) 0 0 1, Lm)) = some (rm, (g2, L2)) := e2
    cases e1; cases e2
    exact Or.inr (Or.inl ⟨rfl, upd2_at⟩)
  rw [xwhat1 c2.1 (by omega), cbxs] at e1
  rw [what1 a0 c2.1 c2.2, cbs, if_neg (by decide)] at e2
  by_cases c3 : (0 : Int32).toInt ≤ p2.toInt ∧ p2.toInt ≤ (60 : Int32).toInt
  rotate_left
  · rw [xwith0 c3] at e1
    have e1 : some (.error IAE, (g, L)) = some (rx, (g1, L1)) := e1
    rw [within0 c3, cbs, right0 a0 (by decide), cbs, if_pos rfl] at e2
    cases e1; cases e2
    exact Or.inr (Or.inr ⟨rfl, upd2_at⟩)
  rw [xwith1 c3.1 c3.2, cbxs] at e1
  rw [within1 c3.1 c3.2, cbs, right1 a0, cbs, if_neg (by decide)] at e2
  have i0 : (0 : Int32).toInt = 0 := rfl
  have i60 : (60 : Int32).toInt = 60 := rfl
  have hl := l12 c1 r1.2
  obtain ⟨l, el⟩ : ∃ i : Nat, p3.toInt = (i : Int) := ⟨p3.toInt.toNat, by omega⟩
  obtain ⟨D, eD⟩ : ∃ i : Nat, p2.toInt = (i : Int) := ⟨p2.toInt.toNat, by omega⟩
  have nl : l < (gm 0 1).toInt.toNat := by have := c1.2; omega
  obtain ⟨xa, ga, La, ea, e1⟩ := cb_some e1
  cases e1
  obtain ⟨cs, hX, hM, -⟩ := dc_all h
  have hM := hM.d (e0_u (x := 0))
  have h7 : ∀ i, i < (gm 0 1).toInt.toNat → g (57 + i) 12 = upd2 gm 0 0 0 7 i := fun i hi => by
    rw [upd2_nk (by decide)]
    exact (h.1.2.1.1 i (by omega)).2.1.2.2.1
  obtain ⟨z, a, b, c, t1, t2⟩ := term_x (hX.d (e0_u (x := 0))) h7 el nl eD (by omega) _ _ _ ea
  have e2 : fX12_term_l57 fu p2 p3 p4 0 0 0 0 (upd2 (upd2 gm 0 0 0) 0 80 p1) Lm = some (rm, (g2, L2)) := e2
  obtain ⟨v0, z', a', b', c', w1, w2⟩ := term_m hM el nl eD (by omega) (fun k hk _ => funext fun _ => upd2_nk hk) (fun j _ hj => upd2_nj hj) upd2_at _ _ _ e2
  obtain ⟨-, rfl, rfl, rfl⟩ := TT.u hM.2.1 nl D t1 w1
  exact Or.inl ⟨by rw [t2, w2], by rw [v0]; exact a0⟩
end
section
/-! ===== sums over subsets; longs; the greatest common divisor ===== -/
def sF (h : Nat → Int) : Nat → Int
  | 0 => 0
  | x + 1 => sF h x + h x
theorem sF_c {h h' : Nat → Int} : ∀ {n : Nat}, (∀ x, x < n → h x = h' x) → sF h n = sF h' n := by
  intro n
  induction n with
  | zero => intro _; rfl
  | succ n ih =>
    intro e
    show sF h n + h n = sF h' n + h' n
    rw [ih (fun x hx => e x (by omega)), e n (by omega)]
theorem sF_add {h : Nat → Int} {a : Nat} : ∀ b : Nat, sF h (a + b) = sF h a + sF (fun y => h (a + y)) b := by
  intro b
  induction b with
  | zero => show sF h a = sF h a + 0; omega
  | succ b ih =>
    show sF h (a + b) + h (a + b) = sF h a + (sF (fun y => h (a + y)) b + h (a + b))
    rw [ih]; omega
theorem sF_two {h1 h2 : Nat → Int} : ∀ n : Nat, sF h1 n + sF h2 n = sF (fun x => h1 x + h2 x) n := by
  intro n
  induction n with
  | zero => rfl
  | succ n ih =>
    show sF h1 n + h1 n + (sF h2 n + h2 n) = sF (fun x => h1 x + h2 x) n + (h1 n + h2 n)
    rw [← ih]; omega
theorem sF_mul {h : Nat → Int} {c : Int} : ∀ n : Nat, sF (fun x => c * h x) n = c * sF h n := by
  intro n
  induction n with
  | zero => show (0 : Int) = c * 0; rw [Int.mul_zero]
  | succ n ih =>
    show sF (fun x => c * h x) n + c * h n = c * (sF h n + h n)
    rw [ih, Int.mul_add]
theorem sF_b {h : Nat → Int} {B : Int} : ∀ n : Nat, (∀ x, x < n → 0 ≤ h x ∧ h x ≤ B) → 0 ≤ sF h n ∧ sF h n ≤ (n : Int) * B := by
  intro n
  induction n with
  | zero => intro _; show (0 : Int) ≤ 0 ∧ (0 : Int) ≤ ((0 : Nat) : Int) * B; rw [Int.ofNat_zero, Int.zero_mul]; exact ⟨Int.le_refl _, Int.le_refl _⟩
  | succ n ih =>
    intro e
    have a := ih (fun x hx => e x (by omega))
    have b := e n (by omega)
    show 0 ≤ sF h n + h n ∧ sF h n + h n ≤ ((n + 1 : Nat) : Int) * B
    have c : ((n + 1 : Nat) : Int) * B = (n : Int) * B + B := by rw [Int.natCast_add, Int.add_mul]; show _ + 1 * B = _; rw [Int.one_mul]
    rw [c]; omega
/-- the weight of a subset of the first m -/
def wt (p : Nat → Int) : Nat → Nat → Int
  | 0, _ => 1
  | m + 1, x => wt p m x * (if x.testBit m = true then p m else 10 - p m)
theorem wt_c {p : Nat → Int} {x y : Nat} : ∀ m : Nat, (∀ k, k < m → x.testBit k = y.testBit k) → wt p m x = wt p m y := by
  intro m
  induction m with
  | zero => intro _; rfl
  | succ m ih =>
    intro h
    show wt p m x * _ = wt p m y * _
    rw [ih (fun k hk => h k (by omega)), h m (by omega)]
theorem wt_b {p : Nat → Int} {x : Nat} : ∀ m : Nat, m ≤ 8 → (∀ k, k < m → 1 ≤ p k ∧ p k ≤ 9) → 0 ≤ wt p m x ∧ wt p m x ≤ 10 ^ m := by
  intro m
  induction m with
  | zero => intro _ _; exact ⟨by show (0 : Int) ≤ 1; omega, by show (1 : Int) ≤ 10 ^ 0; decide⟩
  | succ m ih =>
    intro hm h
    obtain ⟨a1, a2⟩ := ih (by omega) (fun k hk => h k (by omega))
    have b := h m (by omega)
    have e : (10 : Int) ^ (m + 1) = 10 ^ m * 10 := Int.pow_succ _ _
    show 0 ≤ wt p m x * _ ∧ wt p m x * _ ≤ _
    rw [e]
    have q : 0 ≤ (if x.testBit m = true then p m else 10 - p m) ∧ (if x.testBit m = true then p m else 10 - p m) ≤ 10 := by split <;> omega
    exact ⟨Int.mul_nonneg a1 q.1, Int.mul_le_mul a2 q.2 q.1 (by omega)⟩
/-- one more of which nothing depends: ten times as much -/
theorem sum_s {p : Nat → Int} {m : Nat} {f f' : Nat → Int} (h1 : ∀ x, x < 2 ^ m → f' x = f x) (h2 : ∀ x, x < 2 ^ m → f' (2 ^ m + x) = f x) : sF (fun x => wt p (m + 1) x * f' x) (2 ^ (m + 1)) = 10 * sF (fun x => wt p m x * f x) (2 ^ m) := by
  have e : 2 ^ (m + 1) = 2 ^ m + 2 ^ m := by rw [Nat.pow_succ]; omega
  rw [e, sF_add]
  have a : sF (fun x => wt p (m + 1) x * f' x) (2 ^ m) = sF (fun x => wt p m x * (10 - p m) * f x) (2 ^ m) := sF_c (fun x hx => by
    show wt p m x * _ * f' x = _
    rw [Nat.testBit_lt_two_pow hx, h1 x hx, if_neg (by decide)])
  have b : sF (fun y => wt p (m + 1) (2 ^ m + y) * f' (2 ^ m + y)) (2 ^ m) = sF (fun x => wt p m x * p m * f x) (2 ^ m) := sF_c (fun x hx => by
    show wt p m (2 ^ m + x) * _ * f' (2 ^ m + x) = _
    rw [Nat.testBit_two_pow_add_eq, Nat.testBit_lt_two_pow hx, h2 x hx, if_pos (by decide), wt_c m (fun k hk => Nat.testBit_two_pow_add_gt hk x)])
  rw [a, b, sF_two, ← sF_mul]
  refine sF_c (fun x _ => ?_)
  rw [← Int.add_mul, ← Int.mul_add, show 10 - p m + p m = 10 by omega, Int.mul_comm (wt p m x) 10, Int.mul_assoc]
/-! longs -/
theorem lg_rg (x : Int64) : -9223372036854775808 ≤ x.toInt ∧ x.toInt ≤ 9223372036854775807 := ⟨Int64.le_toInt x, Int.le_of_lt_add_one (Int64.toInt_lt x)⟩
theorem lg_b {n : Int} (h1 : -9223372036854775808 ≤ n) (h2 : n ≤ 9223372036854775807) : n.bmod (2 ^ 64) = n := Int.bmod_eq_of_le (by omega) (by omega)
theorem lg_addc {x y : Int64} {m n : Int} (hx : x.toInt = m) (hy : y.toInt = n) (h1 : -9223372036854775808 ≤ m + n) (h2 : m + n ≤ 9223372036854775807) : (x + y).toInt = m + n := by
  rw [Int64.toInt_add, hx, hy, lg_b h1 h2]
theorem lg_subc {x y : Int64} {m n : Int} (hx : x.toInt = m) (hy : y.toInt = n) (h1 : -9223372036854775808 ≤ m - n) (h2 : m - n ≤ 9223372036854775807) : (x - y).toInt = m - n := by
  rw [Int64.toInt_sub, hx, hy, lg_b h1 h2]
theorem lg_mulc {x y : Int64} {m n : Int} (hx : x.toInt = m) (hy : y.toInt = n) (h1 : -9223372036854775808 ≤ m * n) (h2 : m * n ≤ 9223372036854775807) : (x * y).toInt = m * n := by
  rw [Int64.toInt_mul, hx, hy, lg_b h1 h2]
theorem lg_divc {x y : Int64} {m n : Nat} (hx : x.toInt = (m : Int)) (hy : y.toInt = (n : Int)) : (x / y).toInt = ((m / n : Nat) : Int) := by
  rw [Int64.toInt_div_of_ne_right _ _ (fun q => by
    rw [q] at hy
    have : (-1 : Int64).toInt = -1 := rfl
    omega), hx, hy, Int.tdiv_eq_ediv_of_nonneg (by omega)]
  rfl
theorem lg_modc {x y : Int64} {m n : Nat} (hx : x.toInt = (m : Int)) (hy : y.toInt = (n : Int)) : (x - x / y * y).toInt = ((m % n : Nat) : Int) := by
  have r := lg_rg x
  rw [hx] at r
  have d := lg_divc hx hy
  have e : m / n * n + m % n = m := by rw [Nat.mul_comm]; exact Nat.div_add_mod m n
  have le : m / n * n ≤ m := by omega
  have c : ((m / n : Nat) : Int) * (n : Int) = ((m / n * n : Nat) : Int) := (Int.natCast_mul _ _).symm
  have mu : (x / y * y).toInt = ((m / n * n : Nat) : Int) := by
    rw [lg_mulc d hy (by rw [c]; omega) (by rw [c]; omega), c]
  rw [lg_subc hx mu (by omega) (by omega)]
  omega
theorem lg_c0 {x : Int64} {m : Nat} (hx : x.toInt = (m : Int)) : (lg_cmp x 0) = 0 ↔ m = 0 := by
  have z : (0 : Int64).toInt = 0 := rfl
  unfold lg_cmp
  constructor
  · intro h
    split at h
    · exact absurd h (by decide)
    · split at h
      · rename_i h9; rw [h9] at hx; omega
      · exact absurd h (by decide)
  · intro h
    have e : x = 0 := Int64.toInt_inj.mp (by rw [hx, h]; rfl)
    rw [e]; rfl
theorem lg_c1 {x : Int64} {m : Nat} (hx : x.toInt = (m : Int)) : (lg_cmp x 1) ≤ 0 ↔ m ≤ 1 := by
  have z : (1 : Int64).toInt = 1 := rfl
  unfold lg_cmp
  by_cases c : (1 : Int64) < x
  · have c' := Int64.lt_iff_toInt_lt.mp c
    rw [if_pos (show x > 1 from c)]
    exact ⟨fun h => absurd h (by decide), fun h => by omega⟩
  · have c' : ¬ (1 : Int64).toInt < x.toInt := fun q => c (Int64.lt_iff_toInt_lt.mpr q)
    rw [if_neg (show ¬ x > 1 from c)]
    refine ⟨fun _ => by omega, fun _ => ?_⟩
    by_cases e : x = 1
    · rw [if_pos e]; decide
    · rw [if_neg e]; decide
theorem pc_ltl {ρ : Type} {Q : ρ → gT → lT → Prop} {v : Int64} {K : Int64 → Option (ρ × zS)} (h : ∀ x, x = v → Pc (K x) Q) : Pc (ltl v K) Q := h v rfl
theorem pc_stle {ρ : Type} {Q : ρ → gT → lT → Prop} {L : lT} {k j : Nat} {x : Int64} {K : lT → Option (ρ × zS)} (h : ∀ L1, L1 = updL L k j x → Pc (K L1) Q) : Pc (stl L k j x K) Q := h _ rfl
theorem pc_cnzL {ρ : Type} {Q : ρ → gT → lT → Prop} {y : Int64} {K : Option (ρ × zS)} (h : Pc K Q) : Pc (cnzL y K) Q := by
  unfold cnzL
  split
  · exact pc_none
  · exact h
theorem updL_at {L : lT} {k j : Nat} {x : Int64} : updL L k j x k j = x := by
  unfold updL
  rw [if_pos rfl]
  exact if_pos rfl
theorem updL_nj {L : lT} {k j j' : Nat} {x : Int64} (h : j' ≠ j) : updL L k j x k j' = L k j' := by
  unfold updL
  rw [if_pos rfl]
  exact if_neg h
/-- Euclid's steps -/
theorem eu_step {A B s : Nat} (b0 : B ≠ 0) (h1 : B * 2 ^ (s / 2) < 9223372036854775808) (h2 : 1 ≤ s → B < A ∧ A * 2 ^ ((s - 1) / 2) < 9223372036854775808) : (A % B) * 2 ^ ((s + 1) / 2) < 9223372036854775808 ∧ A % B < B ∧ B * 2 ^ ((s + 1 - 1) / 2) < 9223372036854775808 := by
  have lt : A % B < B := Nat.mod_lt _ (by omega)
  refine ⟨?_, lt, h1⟩
  by_cases c : 1 ≤ s
  · obtain ⟨q1, q2⟩ := h2 c
    have e : (s + 1) / 2 = (s - 1) / 2 + 1 := by omega
    have d := Nat.div_add_mod A B
    have d1 : 1 ≤ A / B := (Nat.le_div_iff_mul_le (by omega)).mpr (by omega)
    have d2 : B * 1 ≤ B * (A / B) := Nat.mul_le_mul_left _ d1
    have two : 2 * (A % B) ≤ A := by omega
    rw [e, Nat.pow_succ, Nat.mul_comm (2 ^ _) 2, ← Nat.mul_assoc, Nat.mul_comm (A % B) 2]
    exact Nat.lt_of_le_of_lt (Nat.mul_le_mul_right _ two) q2
  · have e : (s + 1) / 2 = s / 2 := by omega
    rw [e]
    exact Nat.lt_of_le_of_lt (Nat.mul_le_mul_right _ (by omega)) h1
theorem reduce_x {fu : Nat} {g : gT} {L : lT} {up low : Nat} (h5 : (L 11 5).toInt = (up : Int)) (h6 : (L 11 6).toInt = (low : Int)) (l0 : 0 < low) : Pc (fX0_reduce_11 fu g L) (fun _ _ L1 => (L1 11 5).toInt = ((up / Nat.gcd low up : Nat) : Int) ∧ (L1 11 6).toInt = ((low / Nat.gcd low up : Nat) : Int)) := by
  have r5 := lg_rg (L 11 5)
  rw [h5] at r5
  unfold fX0_reduce_11
  refine pc_ltl (fun y1 e1 => pc_ltl (fun y2 e2 => ?_))
  have fin : ∀ (v : Int64) (g' : gT), v.toInt = ((Nat.gcd low up : Nat) : Int) → Pc (fX0_reduce_11_p43 fu v g' L) (fun _ _ L1 => (L1 11 5).toInt = ((up / Nat.gcd low up : Nat) : Int) ∧ (L1 11 6).toInt = ((low / Nat.gcd low up : Nat) : Int)) := by
    intro v g' hv
    have gp : 0 < Nat.gcd low up := Nat.gcd_pos_of_pos_left _ l0
    unfold fX0_reduce_11_p43 fX0_reduce_11_p69
    refine pc_ite (fun c => pc_some ?_) (fun c => pc_cnzL (pc_stle (fun L4 e4 => pc_cnzL (pc_stle (fun L5 e5 => pc_some ⟨?_, ?_⟩)))))
    · have c := (lg_c1 hv).mp c
      have e : Nat.gcd low up = 1 := by omega
      rw [e, Nat.div_one, Nat.div_one]
      exact ⟨h5, h6⟩
    · rw [e5, updL_nj (by decide), e4, updL_at]
      exact lg_divc h5 hv
    · rw [e5, updL_at, e4, updL_nj (by decide)]
      exact lg_divc h6 hv
  unfold fX0_reduce_11_l13
  refine pc_loop (fun v => ∃ (s A B : Nat), v.2.2.1.toInt = (s : Int) ∧ s ≤ 200 ∧ v.1.toInt = (A : Int) ∧ v.2.1.toInt = (B : Int) ∧ Nat.gcd A B = Nat.gcd low up ∧ B * 2 ^ (s / 2) < 9223372036854775808 ∧ (1 ≤ s → B < A ∧ A * 2 ^ ((s - 1) / 2) < 9223372036854775808) ∧ v.2.2.2.2 = L) (fun k13 hk v hv => ?_) ⟨0, low, up, rfl, by omega, by rw [e1]; exact h6, by rw [e2]; exact h5, rfl, by rw [Nat.zero_div, Nat.pow_zero]; omega, fun h => by omega, rfl⟩
  obtain ⟨v1, v3, v5, g', L'⟩ := v
  obtain ⟨s, A, B, hs, s2, hA, hB, hg, b1, b2, eL⟩ := hv
  replace hs : v5.toInt = (s : Int) := hs
  replace hA : v1.toInt = (A : Int) := hA
  replace hB : v3.toInt = (B : Int) := hB
  replace eL : L' = L := eL
  rw [eL]
  show Pc (fX0_reduce_11_s13 fu k13 v1 v3 v5 g' L) _
  unfold fX0_reduce_11_s13
  refine pc_ite (fun c => fin v1 g' ?_) (fun c => pc_ite (fun c2 => fin v1 g' ?_) (fun c2 => pc_cnzL (pc_ltl (fun y8 e8 => hk _ ⟨s + 1, B, A % B, ?_, ?_, hB, ?_, ?_, ?_, ?_, rfl⟩))))
  · have c := icc_le (m := 200) rfl hs c
    have es : s = 200 := by omega
    have bz : B = 0 := by
      refine Classical.byContradiction (fun hb => ?_)
      rw [es] at b1
      have : 1 * 2 ^ (200 / 2) ≤ B * 2 ^ (200 / 2) := Nat.mul_le_mul_right _ (by omega)
      have k : (9223372036854775808 : Nat) ≤ 1 * 2 ^ (200 / 2) := by decide
      omega
    rw [bz, Nat.gcd_zero_right] at hg
    rw [hA, hg]
  · have c2 := (lg_c0 hB).mp c2
    rw [c2, Nat.gcd_zero_right] at hg
    rw [hA, hg]
  · have c := icc_nle (m := 200) rfl hs c
    show (v5 + 1).toInt = _
    rw [ic_addc hs (n := 1) rfl (by omega) (by omega)]; omega
  · have c := icc_nle (m := 200) rfl hs c
    omega
  · show y8.toInt = _
    rw [e8]; exact lg_modc hA hB
  · rw [← hg, Nat.gcd_comm A B, Nat.gcd_rec B A, Nat.gcd_comm]
  · exact (eu_step (fun q => c2 ((lg_c0 hB).mpr q)) b1 b2).1
  · intro _
    exact (eu_step (fun q => c2 ((lg_c0 hB).mpr q)) b1 b2).2
theorem portion_m {fu : Nat} {p1 p2 : Int64} {p3 : Int32} {g : gT} {L : lT} {up low : Nat} (h1 : p1.toInt = (up : Int)) (h2 : p2.toInt = (low : Int)) : Pc (fX12_portion fu p1 p2 p3 g L) (fun x g1 _ => g1 = g ∧ x.toInt = (((if p3 = 0 then up else low) / Nat.gcd low up : Nat) : Int)) := by
  unfold fX12_portion fX12_portion_l6
  refine pc_loop (fun v => ∃ (A B : Nat), v.1.toInt = (A : Int) ∧ v.2.1.toInt = (B : Int) ∧ Nat.gcd A B = Nat.gcd low up ∧ v.2.2.1 = g) (fun k6 hk v hv => ?_) ⟨low, up, h2, h1, rfl, rfl⟩
  obtain ⟨v5, v7, g', L'⟩ := v
  obtain ⟨A, B, hA, hB, hg, eg⟩ := hv
  replace hA : v5.toInt = (A : Int) := hA
  replace hB : v7.toInt = (B : Int) := hB
  replace eg : g' = g := eg
  subst eg
  show Pc (fX12_portion_s6 fu p1 p2 p3 k6 v5 v7 g' L') _
  unfold fX12_portion_s6 fX12_portion_p41
  refine pc_ite (fun c2 => ?_) (fun c2 => pc_cnzL (pc_ltl (fun y3 e3 => hk _ ⟨B, A % B, hB, ?_, ?_, rfl⟩)))
  · have c2 := (lg_c0 hB).mp c2
    rw [c2, Nat.gcd_zero_right] at hg
    rw [hg] at hA
    refine pc_ite (fun c0 => pc_cnzL (pc_some ⟨rfl, ?_⟩)) (fun c0 => pc_cnzL (pc_some ⟨rfl, ?_⟩))
    · rw [if_pos c0]; exact lg_divc h1 hA
    · rw [if_neg c0]; exact lg_divc h2 hA
  · show y3.toInt = _
    rw [e3]; exact lg_modc hA hB
  · rw [← hg, Nat.gcd_comm A B, Nat.gcd_rec B A, Nat.gcd_comm]
end
section
/-! ===== the longs stand while lessons run ===== -/
section PLL
variable {fu : Nat} {g : gT} {L : lT}
theorem pl_up {p1 : Int32} : Pc (fX1_isUpstairs_8 fu p1 g L) (fun _ _ L1 => L1 = L) := by
  unfold fX1_isUpstairs_8 fX1_isUpstairs_8_p18
  exact pc_ck (fun _ _ => pc_ite (fun _ => pc_ckb (pc_some rfl)) (fun _ => pc_ckb (pc_some rfl)))
theorem pl_way {p1 p2 : Int32} : Pc (fX1_way_8 fu p1 p2 g L) (fun _ _ L1 => L1 = L) := by
  unfold fX1_way_8 fX1_way_8_p55
  refine pc_ck (fun _ _ => pc_ck (fun _ _ => pc_lti (fun _ _ => pc_cb pl_up (fun _ _ L1 e => ?_))))
  subst e
  refine pc_cb pl_up (fun _ _ L2 e => ?_)
  subst e
  exact pc_ite (fun _ => pc_some rfl) (fun _ => pc_ite (fun _ => pc_ck (fun _ _ => pc_ltn (fun _ _ => pc_cnz (pc_some rfl)))) (fun _ => pc_some rfl))
theorem pl_co {p1 p2 p3 : Int32} : Pc (fX1_comingOf_8 fu p1 p2 p3 g L) (fun _ _ L1 => L1 = L) := by
  unfold fX1_comingOf_8 fX1_comingOf_8_l6
  refine pc_loop (fun v => v.2.2.2 = L) (fun k6 hk v hv => ?_) rfl
  obtain ⟨v4, v5, g', L'⟩ := v
  replace hv : L' = L := hv
  subst hv
  show Pc (fX1_comingOf_8_s6 fu p1 p2 k6 v4 v5 g' L') _
  unfold fX1_comingOf_8_s6
  refine pc_ite (fun _ => pc_some rfl) (fun _ => ?_)
  unfold fX1_comingOf_8_l18
  refine pc_loop (fun v => v.2.2.2 = L') (fun k18 hk2 v hv => ?_) rfl
  obtain ⟨v6, v7, g2, L2⟩ := v
  replace hv : L2 = L' := hv
  subst hv
  show Pc (fX1_comingOf_8_s18 fu k6 p1 p2 v4 v5 k18 v6 v7 g2 L2) _
  unfold fX1_comingOf_8_s18 fX1_comingOf_8_p84 fX1_comingOf_8_p48
  refine pc_ite (fun _ => pc_ite (fun _ => hk _ rfl) (fun _ => pc_ck (fun _ _ => pc_ite (fun _ => hk _ rfl) (fun _ => pc_ck (fun _ _ => pc_lti (fun _ _ => hk _ rfl)))))) (fun _ => pc_ck (fun _ _ => pc_ck (fun _ _ => pc_ite (fun _ => pc_lti (fun _ _ => hk2 _ rfl)) (fun _ => pc_lti (fun _ _ => hk2 _ rfl)))))
theorem pl_fc {p1 : Int32} {q : Nat} : Pc (fX1_firstComingAt_8_les fu p1 q g L) (fun _ _ L1 => L1 = L) := by
  unfold fX1_firstComingAt_8_les fX1_firstComingAt_8_les_l2
  refine pc_loop (fun v => v.2.2 = L) (fun k2 hk v hv => ?_) rfl
  obtain ⟨v3, g', L'⟩ := v
  replace hv : L' = L := hv
  subst hv
  show Pc (fX1_firstComingAt_8_les_s2 fu p1 q k2 v3 g' L') _
  unfold fX1_firstComingAt_8_les_s2
  exact pc_ite (fun _ => pc_some rfl) (fun _ => pc_ck (fun _ _ => pc_ite (fun _ => pc_ck (fun _ _ => pc_some rfl)) (fun _ => hk _ rfl)))
theorem pl_bt {p1 v3 : Int32} {q : Nat} : Pc (fX1_begin_8_les_p115 fu p1 q v3 g L) (fun _ _ L1 => L1 = L) := by
  unfold fX1_begin_8_les_p115
  refine pc_ite (fun _ => pc_ck (fun _ _ => pc_lti (fun _ _ => pc_ite (fun _ => pc_ck (fun _ _ => pc_st (fun _ _ => pc_cb pl_fc (fun _ _ L1 e => ?_)))) (fun _ => pc_ck (fun _ _ => pc_st (fun _ _ => pc_some rfl)))))) (fun _ => pc_some rfl)
  subst e
  exact pc_ck (fun _ _ => pc_st (fun _ _ => pc_some rfl))
theorem pl_be {p1 : Int32} {q : Nat} : Pc (fX1_begin_8_les fu p1 q g L) (fun _ _ L1 => L1 = L) := by
  unfold fX1_begin_8_les
  refine pc_ck (fun _ _ => pc_st (fun _ _ => pc_ck (fun _ _ => pc_st (fun g2 _ => pc_lti (fun x3 _ => ?_)))))
  unfold fX1_begin_8_les_l25
  refine pc_loop (fun v => v.2.2.2 = L) (fun k25 hk v hv => ?_) rfl
  obtain ⟨v3, v4, g', L'⟩ := v
  replace hv : L' = L := hv
  subst hv
  show Pc (fX1_begin_8_les_s25 fu p1 q k25 v3 v4 g' L') _
  unfold fX1_begin_8_les_s25
  refine pc_ite (fun _ => pc_ite (fun _ => pc_cb pl_co (fun _ _ L1 e => ?_)) (fun _ => pl_bt)) (fun _ => pc_ck (fun _ _ => pc_lti (fun _ _ => pc_ck (fun _ _ => pc_cb pl_way (fun _ _ L1 e => ?_)))))
  · subst e; exact pl_bt
  · subst e
    exact pc_ck (fun _ _ => pc_ck (fun _ _ => pc_st (fun _ _ => pc_ck (fun _ _ => pc_lti (fun _ _ => hk _ rfl)))))
theorem pl_jo {p1 p2 p3 : Int32} : Pc (fX8_joined fu p1 p2 p3 g L) (fun _ _ L1 => L1 = L) := by
  unfold fX8_joined fX8_joined_p102 fX8_joined_p103 fX8_joined_p89 fX8_joined_p78 fX8_joined_p67 fX8_joined_p112 fX8_joined_p117
  repeat' first
    | exact pc_cnz (pc_some rfl)
    | exact pc_some rfl
    | refine pc_ite (fun _ => ?_) (fun _ => ?_)
theorem pl_va {p1 : Int32} : Pc (fX8_value_3_48 fu p1 g L) (fun _ _ L1 => L1 = L) := by
  unfold fX8_value_3_48 fX8_value_3_48_p12
  refine pc_ite (fun _ => pc_some rfl) (fun _ => pc_ite (fun _ => pc_ck (fun _ _ => pc_lti (fun x3 _ => ?_))) (fun _ => pc_some rfl))
  unfold fX8_value_3_48_l24
  refine pc_loop (fun v => v.2.2.2 = L) (fun k24 hk v hv => ?_) rfl
  obtain ⟨v3, v4, g', L'⟩ := v
  replace hv : L' = L := hv
  subst hv
  show Pc (fX8_value_3_48_s24 fu p1 k24 v3 v4 g' L') _
  unfold fX8_value_3_48_s24 fX8_value_3_48_p126 fX8_value_3_48_p82 fX8_value_3_48_p167 fX8_value_3_48_p188
  refine pc_ck (fun _ _ => pc_ite (fun _ => pc_ite (fun _ => pc_ck (fun _ _ => pc_some rfl)) (fun _ => pc_some rfl)) (fun _ => pc_ck (fun _ _ => pc_lti (fun x6 _ => pc_ite (fun _ => pc_ite (fun _ => pc_ite (fun _ => pc_ck (fun _ _ => pc_ite (fun _ => pc_ck (fun _ _ => pc_st (fun _ _ => hk _ rfl))) (fun _ => pc_ck (fun _ _ => pc_st (fun _ _ => hk _ rfl))))) (fun _ => pc_some rfl)) (fun _ => pc_ite (fun _ => pc_ck (fun _ _ => pc_ck (fun _ _ => pc_cb pl_jo (fun _ _ L1 e => ?_)))) (fun _ => pc_some rfl))) (fun _ => pc_ite (fun _ => pc_ite (fun _ => pc_ck (fun _ _ => pc_ck (fun _ _ => pc_st (fun _ _ => hk _ rfl)))) (fun _ => pc_ck (fun _ _ => pc_st (fun _ _ => hk _ rfl)))) (fun _ => pc_some rfl))))))
  subst e
  exact pc_ck (fun _ _ => pc_st (fun _ _ => hk _ rfl))
theorem pl_ot {p1 t0 : Int32} {q : Nat} : Pc (fX1_overrun_8_les_p29 fu p1 q t0 g L) (fun _ _ L1 => L1 = L) := by
  unfold fX1_overrun_8_les_p29 fX1_overrun_8_les_p151
  refine pc_ck (fun _ _ => pc_lti (fun _ _ => pc_ite (fun _ => pc_some rfl) (fun _ => pc_ck (fun _ _ => pc_ck (fun _ _ => pc_st (fun _ _ => pc_ck (fun _ _ => pc_ck (fun _ _ => pc_st (fun _ _ => pc_ck (fun _ _ => pc_ck (fun _ _ => pc_st (fun _ _ => pc_ck (fun _ _ => pc_ck (fun _ _ => pc_st (fun _ _ => pc_ck (fun _ _ => pc_st (fun _ _ => pc_ck (fun _ _ => pc_st (fun _ _ => pc_cb pl_va (fun _ _ L1 e => ?_))))))))))))))))))))
  subst e
  exact pc_some rfl
theorem pl_ou {p1 : Int32} {q : Nat} : Pc (fX1_overrun_8_les fu p1 q g L) (fun _ _ L1 => L1 = L) := by
  unfold fX1_overrun_8_les
  exact pc_ite (fun _ => pc_some rfl) (fun _ => pc_ite (fun _ => pl_ot) (fun _ => pl_ot))
theorem pl_ro {p1 : Int32} : Pc (fX1_runOne_8 fu p1 g L) (fun _ _ L1 => L1 = L) := by
  unfold fX1_runOne_8
  refine pc_ck (fun _ _ => pc_ltn (fun _ _ => pc_cb pl_be (fun _ _ L1 e => ?_)))
  subst e
  refine pc_cb pl_ou (fun _ _ L1 e => ?_)
  subst e
  exact pc_ck (fun _ _ => pc_st (fun _ _ => pc_ck (fun _ _ => pc_ck (fun _ _ => pc_ck (fun _ _ => pc_st (fun _ _ => pc_some rfl))))))
theorem pl_late {p1 : Int32} : Pc (fX1_late_8 fu p1 g L) (fun _ _ L1 => L1 = L) := by
  unfold fX1_late_8
  exact pc_ck (fun _ _ => pc_ck (fun _ _ => pc_ltn (fun _ _ => pc_some rfl)))
end PLL
/-! ===== who is unsure ===== -/
/-- of the first i lessons, those that may run over or not: eight at most -/
def us (d : gT) : Nat → List Nat
  | 0 => []
  | i + 1 => if (1 ≤ (d 7 i).toInt ∧ (d 7 i).toInt ≤ 9) ∧ (us d i).length < 8 then us d i ++ [i] else us d i
theorem us_t {d : gT} {i : Nat} (h : (1 ≤ (d 7 i).toInt ∧ (d 7 i).toInt ≤ 9) ∧ (us d i).length < 8) : us d (i + 1) = us d i ++ [i] := if_pos h
theorem us_f {d : gT} {i : Nat} (h : ¬ ((1 ≤ (d 7 i).toInt ∧ (d 7 i).toInt ≤ 9) ∧ (us d i).length < 8)) : us d (i + 1) = us d i := if_neg h
theorem us_len {d : gT} : ∀ i, (us d i).length ≤ 8 := by
  intro i
  induction i with
  | zero => show 0 ≤ 8; omega
  | succ i ih =>
    by_cases c : (1 ≤ (d 7 i).toInt ∧ (d 7 i).toInt ≤ 9) ∧ (us d i).length < 8
    · rw [us_t c, List.length_append]; show _ + 1 ≤ 8; omega
    · rw [us_f c]; exact ih
theorem us_lt {d : gT} : ∀ i, ∀ x ∈ us d i, x < i ∧ 1 ≤ (d 7 x).toInt ∧ (d 7 x).toInt ≤ 9 := by
  intro i
  induction i with
  | zero => intro x hx; exact absurd hx List.not_mem_nil
  | succ i ih =>
    intro x hx
    by_cases c : (1 ≤ (d 7 i).toInt ∧ (d 7 i).toInt ≤ 9) ∧ (us d i).length < 8
    · rw [us_t c] at hx
      rcases List.mem_append.mp hx with hx | hx
      · have := ih x hx; omega
      · rw [List.mem_singleton.mp hx]; exact ⟨by omega, c.1⟩
    · rw [us_f c] at hx
      have := ih x hx; omega
theorem us_pre {d : gT} {i : Nat} : ∀ j, i ≤ j → ∃ r, us d j = us d i ++ r ∧ ∀ x ∈ r, i ≤ x := by
  intro j
  induction j with
  | zero => intro h; rw [show i = 0 by omega]; exact ⟨[], by rw [List.append_nil], fun x hx => absurd hx List.not_mem_nil⟩
  | succ j ih =>
    intro h
    by_cases e : i = j + 1
    · rw [e]; exact ⟨[], by rw [List.append_nil], fun x hx => absurd hx List.not_mem_nil⟩
    · obtain ⟨r, h1, h2⟩ := ih (by omega)
      by_cases c : (1 ≤ (d 7 j).toInt ∧ (d 7 j).toInt ≤ 9) ∧ (us d j).length < 8
      · refine ⟨r ++ [j], by rw [us_t c, h1, List.append_assoc], fun x hx => ?_⟩
        rcases List.mem_append.mp hx with hx | hx
        · exact h2 x hx
        · rw [List.mem_singleton.mp hx]; omega
      · exact ⟨r, by rw [us_f c, h1], h2⟩
/-- the k-th of them -/
def un (d : gT) (n k : Nat) : Nat := (us d n).getD k 0
theorem un_e {d : gT} {n k x : Nat} (h : (us d n)[k]? = some x) : un d n k = x := by
  unfold un
  rw [List.getD_eq_getElem?_getD, h]; rfl
theorem un_m {d : gT} {n k : Nat} (h : k < (us d n).length) : un d n k ∈ us d n := by
  rw [un_e (List.getElem?_eq_getElem h)]; exact List.getElem_mem _
theorem un_pre {d : gT} {i n k : Nat} (hi : i ≤ n) (h : k < (us d i).length) : un d i k = un d n k := by
  obtain ⟨r, h1, -⟩ := us_pre (d := d) n hi
  refine (un_e ?_).symm
  rw [h1, List.getElem?_append, if_pos h, un_e (List.getElem?_eq_getElem h)]
  exact List.getElem?_eq_getElem h
theorem un_behind {d : gT} {i n k : Nat} (hi : i ≤ n) (h1 : (us d i).length ≤ k) (h2 : k < (us d n).length) : i ≤ un d n k := by
  obtain ⟨r, e, hr⟩ := us_pre (d := d) n hi
  rw [e, List.length_append] at h2
  have : (us d n)[k]? = some (r[k - (us d i).length]'(by omega)) := by
    rw [e, List.getElem?_append, if_neg (by omega)]
    exact List.getElem?_eq_getElem (by omega)
  rw [un_e this]
  exact hr _ (List.getElem_mem _)
/-- who runs over, if of those that are unsure just x do -/
def RS (d : gT) (u : Nat → Nat) (m x i : Nat) : Prop := ¬ d 7 i = 0 ∧ ∀ k, k < m → u k = i → x.testBit k = true
def LT (cs : Nat → List Int) (d : gT) (l : Nat) (R : Nat → Prop) (t : Int32) : Prop := ∃ v, TD cs (l + 1) d R l v t
theorem LT.u {cs : Nat → List Int} {d : gT} {l : Nat} {R : Nat → Prop} (hW : WF (l + 1) d) : ∀ t t', LT cs d l R t → LT cs d l R t' → t = t' := fun t t' h h' => by
  obtain ⟨v, h⟩ := h
  obtain ⟨v', h'⟩ := h'
  exact (TD.u hW (Nat.lt_succ_self l) h h').2
theorem LT.c {cs : Nat → List Int} {d : gT} {l : Nat} {R R' : Nat → Prop} (e : ∀ i, i < l + 1 → (R i ↔ R' i)) : LT cs d l R = LT cs d l R' := by
  funext t
  refine propext ⟨fun h => ?_, fun h => ?_⟩
  · obtain ⟨v, m, bg, en, ru, by_, h1, h2⟩ := h
    exact ⟨v, m, bg, en, ru, by_, fun i hi => (h1 i hi).trans ⟨fun q w => q ((e i hi).mpr w), fun q w => q ((e i hi).mp w)⟩, h2⟩
  · obtain ⟨v, m, bg, en, ru, by_, h1, h2⟩ := h
    exact ⟨v, m, bg, en, ru, by_, fun i hi => (h1 i hi).trans ⟨fun q w => q ((e i hi).mp w), fun q w => q ((e i hi).mpr w)⟩, h2⟩
/-- how late it is then -/
noncomputable def lf (P : Int32 → Prop) : Int32 := @dite Int32 (∃ t, P t) (Classical.propDecidable _) (fun h => Classical.choose h) (fun _ => 0)
theorem lf_e {P : Int32 → Prop} {t : Int32} (u : ∀ t t', P t → P t' → t = t') (h : P t) : lf P = t := by
  have e : ∃ t, P t := ⟨t, h⟩
  have q : lf P = Classical.choose e := @dif_pos (∃ t, P t) (Classical.propDecidable _) e Int32 _ _
  rw [q]
  exact u _ _ (Classical.choose_spec e) h
noncomputable def fQ (cs : Nat → List Int) (d : gT) (l : Nat) (u : Nat → Nat) (F : Int32 → Int) (m x : Nat) : Int := F (lf (LT cs d l (RS d u m x)))
/-- the sum over all of them -/
noncomputable def SQm (cs : Nat → List Int) (d : gT) (l : Nat) (u : Nat → Nat) (F : Int32 → Int) (m : Nat) : Int := sF (fun x => wt (fun k => (d 7 (u k)).toInt) m x * fQ cs d l u F m x) (2 ^ m)
theorem sq_s {cs : Nat → List Int} {d : gT} {l m : Nat} {u : Nat → Nat} {F : Int32 → Int} (h : l < u m) : SQm cs d l u F (m + 1) = 10 * SQm cs d l u F m := by
  unfold SQm
  refine sum_s (fun x hx => ?_) (fun x hx => ?_)
  · unfold fQ
    rw [LT.c (R' := RS d u m x) (fun i hi => ?_)]
    constructor
    · intro ⟨a, b⟩; exact ⟨a, fun k hk e => b k (by omega) e⟩
    · intro ⟨a, b⟩
      refine ⟨a, fun k hk e => ?_⟩
      by_cases q : k = m
      · rw [q] at e; omega
      · exact b k (by omega) e
  · unfold fQ
    rw [LT.c (R' := RS d u m x) (fun i hi => ?_)]
    constructor
    · intro ⟨a, b⟩
      refine ⟨a, fun k hk e => ?_⟩
      have := b k (by omega) e
      rw [Nat.testBit_two_pow_add_gt hk] at this
      exact this
    · intro ⟨a, b⟩
      refine ⟨a, fun k hk e => ?_⟩
      by_cases q : k = m
      · rw [q] at e; omega
      · rw [Nat.testBit_two_pow_add_gt (by omega)]
        exact b k (by omega) e
theorem sq_all {cs : Nat → List Int} {d : gT} {l a : Nat} {u : Nat → Nat} {F : Int32 → Int} : ∀ b : Nat, (∀ k, a ≤ k → k < a + b → l < u k) → SQm cs d l u F (a + b) = 10 ^ b * SQm cs d l u F a := by
  intro b
  induction b with
  | zero => intro _; show SQm cs d l u F a = 10 ^ 0 * _; rw [Int.pow_zero, Int.one_mul]
  | succ b ih =>
    intro h
    show SQm cs d l u F (a + b + 1) = _
    rw [sq_s (h (a + b) (by omega) (by omega)), ih (fun k x y => h k x (by omega)), Int.pow_succ, Int.mul_comm (10 ^ b) 10, Int.mul_assoc]
theorem RS.c {d : gT} {u u' : Nat → Nat} {m x i : Nat} (h : ∀ k, k < m → u k = u' k) : RS d u m x i ↔ RS d u' m x i := by
  constructor
  · intro ⟨a, b⟩; exact ⟨a, fun k hk e => b k hk (by rw [h k hk]; exact e)⟩
  · intro ⟨a, b⟩; exact ⟨a, fun k hk e => b k hk (by rw [← h k hk]; exact e)⟩
theorem wt_p {p p' : Nat → Int} {x : Nat} : ∀ m : Nat, (∀ k, k < m → p k = p' k) → wt p m x = wt p' m x := by
  intro m
  induction m with
  | zero => intro _; rfl
  | succ m ih =>
    intro h
    show wt p m x * _ = wt p' m x * _
    rw [ih (fun k hk => h k (by omega)), h m (by omega)]
theorem sq_u {cs : Nat → List Int} {d : gT} {l m : Nat} {u u' : Nat → Nat} {F : Int32 → Int} (h : ∀ k, k < m → u k = u' k) : SQm cs d l u F m = SQm cs d l u' F m := by
  unfold SQm
  refine sF_c (fun x _ => ?_)
  unfold fQ
  rw [LT.c (fun i _ => RS.c h), wt_p m (fun k hk => by rw [h k hk])]
/-! bits of a subset -/
theorem tb_x : ∀ x : Nat, x < 257 → ∀ k : Nat, k < 8 → tbi (Int32.ofInt (x : Int)) k = x.testBit k := by decide +kernel
theorem sh_m : ∀ m : Nat, m ≤ 8 → ((1 : Int32) <<< (Int32.ofInt (m : Int) &&& 31)).toInt = ((2 ^ m : Nat) : Int) ∧ 2 ^ m ≤ 256 := by decide
theorem p10 : ∀ m : Nat, m ≤ 8 → 1 ≤ 10 ^ m ∧ 10 ^ m ≤ 100000000 := by decide
theorem p10i (m : Nat) : (10 : Int) ^ m = ((10 ^ m : Nat) : Int) := (Int.natCast_pow 10 m).symm
end
