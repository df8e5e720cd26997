/-! ===== small equations ===== -/
theorem right1 {fu : Nat} {g : gT} {L : lT} {w : Int32} (h : g 0 0 = 0) : fX12_right fu 1 w g L = some (1, (g, L)) := by
  unfold fX12_right
  rw [if_pos h, if_neg (by decide)]
  unfold fX12_right_p16 fX12_right_p28
  rw [ckb0, ckb1, if_pos h]
theorem right0 {fu : Nat} {g : gT} {L : lT} {w : Int32} (h : g 0 0 = 0) (hw : ¬ w = 0) : fX12_right fu 0 w g L = some (0, (upd2 g 0 0 w, L)) := by
  unfold fX12_right
  rw [if_pos h, if_pos rfl]
  show fX12_right_p16 fu (upd2 g 0 0 w) L = _
  unfold fX12_right_p16 fX12_right_p28
  rw [ckb0, ckb1, if_neg (by rw [upd2_at]; exact hw)]
theorem within1 {fu : Nat} {g : gT} {L : lT} {p lo hi : Int32} (h1 : lo.toInt ≤ p.toInt) (h2 : p.toInt ≤ hi.toInt) : fX12_within fu p lo hi g L = some (1, (g, L)) := by
  unfold fX12_within fX12_within_p15
  rw [ckb1, if_neg (fun h => by have := icc_lt (m := p.toInt) (n := lo.toInt) rfl rfl h; omega), if_neg (fun h => by have := icc_lt (m := hi.toInt) (n := p.toInt) rfl rfl h; omega)]
theorem within0 {fu : Nat} {g : gT} {L : lT} {p lo hi : Int32} (h : ¬ (lo.toInt ≤ p.toInt ∧ p.toInt ≤ hi.toInt)) : fX12_within fu p lo hi g L = some (0, (g, L)) := by
  unfold fX12_within fX12_within_p15 fX12_within_p14 fX12_within_p15
  rw [ckb0, ckb1]
  by_cases c : p < lo
  · rw [if_pos c]
  · rw [if_neg c]
    have c := icc_nlt (m := p.toInt) (n := lo.toInt) rfl rfl c
    rw [if_pos (Int32.lt_iff_toInt_lt.mpr (by omega))]
/-- the lesson that is asked for is one -/
def isL (n p : Int32) : Prop := 0 ≤ p.toInt ∧ p.toInt < n.toInt
theorem lesson1 {fu : Nat} {g : gT} {L : lT} {p : Int32} (h0 : g 0 0 = 0) (h : isL (g 0 1) p) : fX12_isLesson fu p g L = some (1, (g, L)) := by
  unfold fX12_isLesson fX12_isLesson_p18
  rw [if_neg (fun c => by have := icc_lt (m := p.toInt) (n := 0) rfl (by decide) c; have := h.1; omega), if_neg (fun c => by have := icc_le (m := (g 0 1).toInt) (n := p.toInt) rfl rfl c; have := h.2; omega)]
  exact q_cb (right1 h0) (by rw [ckb1])
theorem lesson0 {fu : Nat} {g : gT} {L : lT} {p : Int32} (h0 : g 0 0 = 0) (h : ¬ isL (g 0 1) p) : fX12_isLesson fu p g L = some (0, (upd2 g 0 0 1, L)) := by
  unfold fX12_isLesson fX12_isLesson_p17 fX12_isLesson_p18
  have k : ∀ (A : Option (Int32 × zS)), A = cb (fX12_right fu 0 1 g L) (fun x1 g2 L3 => ckb x1 (some (x1, (g2, L3)))) → A = some (0, (upd2 g 0 0 1, L)) := fun A e => by rw [e]; exact q_cb (right0 h0 (by decide)) (by rw [ckb0])
  by_cases c : p < 0
  · rw [if_pos c]; exact k _ rfl
  · rw [if_neg c]
    have c := icc_nlt (m := p.toInt) (n := 0) rfl (by decide) c
    rw [if_pos (Int32.le_iff_toInt_le.mpr (by
      by_cases d : (g 0 1).toInt ≤ p.toInt
      · exact d
      · exact absurd ⟨c, by omega⟩ h))]
    exact k _ rfl
theorem what1 {fu : Nat} {g : gT} {L : lT} {p hi : Int32} (h0 : g 0 0 = 0) (h1 : 0 ≤ p.toInt) (h2 : p.toInt ≤ hi.toInt) : fX12_isWhat fu p hi g L = some (1, (g, L)) := by
  unfold fX12_isWhat
  exact q_cb (within1 (lo := 0) h1 h2) (q_cb (right1 h0) (by rw [ckb1]))
theorem what0 {fu : Nat} {g : gT} {L : lT} {p hi : Int32} (h0 : g 0 0 = 0) (h : ¬ (0 ≤ p.toInt ∧ p.toInt ≤ hi.toInt)) : fX12_isWhat fu p hi g L = some (0, (upd2 g 0 0 1, L)) := by
  unfold fX12_isWhat
  exact q_cb (within0 (lo := 0) h) (q_cb (right0 h0 (by decide)) (by rw [ckb0]))
/-- the class asks for a lesson, for a what -/
theorem xneed1 {fu : Nat} {g : gT} {L : lT} {p : Int32} (h : isL (g 1 2) p) : fX11_needLesson_0 fu p g L = some (.ok (), (g, L)) := by
  unfold fX11_needLesson_0
  rw [if_neg (fun c => by have := icc_lt (m := p.toInt) (n := 0) rfl (by decide) c; have := h.1; omega), if_pos (Int32.lt_iff_toInt_lt.mpr h.2)]
theorem xneed0 {fu : Nat} {g : gT} {L : lT} {p : Int32} (h : ¬ isL (g 1 2) p) : fX11_needLesson_0 fu p g L = some (.error "java/util/NoSuchElementException", (g, L)) := by
  unfold fX11_needLesson_0 fX11_needLesson_0_p15
  by_cases c : p < 0
  · rw [if_pos c]
  · rw [if_neg c]
    have c := icc_nlt (m := p.toInt) (n := 0) rfl (by decide) c
    rw [if_neg (fun d => h ⟨c, icc_lt (m := p.toInt) (n := (g 1 2).toInt) rfl rfl d⟩)]
theorem xwhat1 {fu : Nat} {g : gT} {L : lT} {p hi : Int32} (h1 : 0 ≤ p.toInt) (h2 : p.toInt < hi.toInt) : fX11_needWhat fu p hi g L = some (.ok (), (g, L)) := by
  unfold fX11_needWhat
  rw [if_neg (fun c => by have := icc_lt (m := p.toInt) (n := 0) rfl (by decide) c; omega), if_pos (Int32.lt_iff_toInt_lt.mpr h2)]
theorem xwhat0 {fu : Nat} {g : gT} {L : lT} {p hi : Int32} (h : ¬ (0 ≤ p.toInt ∧ p.toInt < hi.toInt)) : fX11_needWhat fu p hi g L = some (.error "java/util/NoSuchElementException", (g, L)) := by
  unfold fX11_needWhat fX11_needWhat_p9
  by_cases c : p < 0
  · rw [if_pos c]
  · rw [if_neg c]
    have c := icc_nlt (m := p.toInt) (n := 0) rfl (by decide) c
    rw [if_neg (fun d => h ⟨c, icc_lt (m := p.toInt) (n := hi.toInt) rfl rfl d⟩)]
section QX
variable {β γ : Type} {R : Option (Except String γ × zS)} {g : gT} {L : lT}
theorem q_xo {m : Option (Except String β × zS)} {K : β → gT → lT → Option (Except String γ × zS)} {x : β} (e : m = some (.ok x, (g, L))) (h : K x g L = R) : cbx m K = R := by rw [e]; exact h
theorem q_xe {m : Option (Except String β × zS)} {K : β → gT → lT → Option (Except String γ × zS)} {E : String} (e : m = some (.error E, (g, L))) (h : some (.error E, (g, L)) = R) : cbx m K = R := by rw [e]; exact h
end QX
/-- acts are counted up to 40 -/
def bmp (c : Int) : Int := if c < 40 then c + 1 else 40
theorem keepAct_n {fu : Nat} {p1 p2 p3 : Int32} {g : gT} {L : lT} (h0 : 0 ≤ (g 6 9).toInt) (h4 : (g 6 9).toInt ≤ 40) : Pc (fX3_keepAct_6 fu p1 p2 p3 g L) (fun _ g1 _ => (g1 6 9).toInt = bmp (g 6 9).toInt) := by
  have P13 : ∀ (g' : gT) (L' : lT), 0 ≤ (g' 6 9).toInt → (g' 6 9).toInt < 40 → Pc (fX3_keepAct_6_p13 fu p1 p2 p3 g' L') (fun _ g1 _ => (g1 6 9).toInt = (g' 6 9).toInt + 1) := by
    intro g' L' h0 h4
    unfold fX3_keepAct_6_p13
    refine pc_ck (fun _ _ => pc_st (fun ga ea => pc_ck (fun _ _ => pc_st (fun gb eb => pc_ck (fun _ _ => pc_st (fun gc ec => pc_st (fun gd ed => pc_some ?_)))))))
    have e : gc 6 9 = g' 6 9 := by rw [ec, eb, ea]; rfl
    rw [ed, upd2_at, e]
    exact ic_addc rfl (by decide) (by omega) (by omega)
  unfold fX3_keepAct_6
  refine pc_ite (fun c => ?_) (fun c => ?_)
  · have c := icc_lt (m := (g 6 9).toInt) (n := 40) rfl (by decide) c
    refine pc_mo (P13 g L h0 c) (fun _ g1 _ e => ?_)
    rw [e]; unfold bmp; rw [if_pos c]
  · have c := icc_nlt (m := (g 6 9).toInt) (n := 40) rfl (by decide) c
    refine pc_cb (P := fun _ g1 _ => g1 6 9 = 39) ?_ (fun _ g1 L1 e => ?_)
    · unfold fX3_dropFirstAct_6
      exact pc_stA (fun ga ea => pc_stA (fun gb eb => pc_stA (fun gc ec => pc_st (fun gd ed => pc_some (by rw [ed]; exact upd2_at)))))
    · have e9 : (g1 6 9).toInt = 39 := by rw [e]; rfl
      refine pc_mo (P13 g1 L1 (by omega) (by omega)) (fun _ g2 _ e => ?_)
      rw [e]; unfold bmp; rw [if_neg (by omega)]; omega
theorem keeps_n {fu : Nat} {p1 p2 : Int32} {g : gT} {L : lT} (h0 : 0 ≤ (g 0 62).toInt) (h4 : (g 0 62).toInt ≤ 40) : Pc (fX12_keeps fu p1 p2 g L) (fun _ g1 _ => (g1 0 62).toInt = bmp (g 0 62).toInt) := by
  have P47 : ∀ (g' : gT) (L' : lT), 0 ≤ (g' 0 62).toInt → (g' 0 62).toInt < 40 → Pc (fX12_keeps_p47 fu p1 p2 g' L') (fun _ g1 _ => (g1 0 62).toInt = (g' 0 62).toInt + 1) := by
    intro g' L' h0 h4
    unfold fX12_keeps_p47
    refine pc_ck (fun _ _ => pc_st (fun ga ea => pc_ck (fun _ _ => pc_st (fun gb eb => pc_st (fun gd ed => pc_some ?_)))))
    have e : gb 0 62 = g' 0 62 := by rw [eb, ea]; rfl
    rw [ed, upd2_at, e]
    exact ic_addc rfl (by decide) (by omega) (by omega)
  unfold fX12_keeps
  refine pc_ite (fun c => ?_) (fun c => ?_)
  · have c := icc_eq (m := (g 0 62).toInt) (n := 40) rfl (by decide) c
    unfold fX12_keeps_l11
    refine pc_loop (fun v => v.2.1 0 62 = g 0 62) (fun k hk v hv => ?_) rfl
    obtain ⟨v3, g', L'⟩ := v
    have hv : g' 0 62 = g 0 62 := hv
    show Pc (fX12_keeps_s11 fu p1 p2 k v3 g' L') _
    unfold fX12_keeps_s11
    refine pc_ite (fun _ => ?_) (fun _ => ?_)
    · refine pc_st (fun ga ea => ?_)
      have e9 : (ga 0 62).toInt = 39 := by
        rw [ea, upd2_at, hv]
        rw [ic_subc (m := (g 0 62).toInt) (n := 1) rfl (by decide) (by omega) (by omega)]
        omega
      refine pc_mo (P47 ga L' (by omega) (by omega)) (fun _ g2 _ e => ?_)
      rw [e]; unfold bmp; rw [if_neg (by omega)]; omega
    · refine pc_ck (fun _ _ => pc_ck (fun _ _ => pc_st (fun ga ea => hk _ ?_)))
      show ga 0 62 = g 0 62
      rw [ea]; exact hv
  · have c := icc_neq (m := (g 0 62).toInt) (n := 40) rfl (by decide) c
    refine pc_mo (P47 g L h0 (by omega)) (fun _ g1 _ e => ?_)
    rw [e]; unfold bmp; rw [if_pos (by omega)]
