/-! ===== lessons ahead of a change stand as they were ===== -/
def DE (f : Nat) (d e : gT) : Prop := (∀ k, k ≠ 12 → e k = d k) ∧ ∀ x p, x < f → x < 12 → p ≤ 3 → e 12 (12 * p + x) = d 12 (12 * p + x)
theorem de_put {d : gT} {f q : Nat} {v : Int32} (hf : f < 12) : DE f d (upd2 d 12 (12 * q + f) v) := ⟨fun k hk => funext fun _ => upd2_nk hk, fun x p h1 h2 _ => upd2_nj (by omega)⟩
theorem de_row {d e : gT} {f x : Nat} (h : DE f d e) (h1 : x < f) (h2 : x < 12) : e 12 x = d 12 x ∧ e 12 (12 + x) = d 12 (12 + x) ∧ e 12 (24 + x) = d 12 (24 + x) ∧ e 12 (36 + x) = d 12 (36 + x) := by
  have a := h.2 x 0 h1 h2 (by decide)
  rw [show 12 * 0 + x = x by omega] at a
  exact ⟨a, h.2 x 1 h1 h2 (by decide), h.2 x 2 h1 h2 (by decide), h.2 x 3 h1 h2 (by decide)⟩
theorem de_cmg {d e : gT} {f n i k : Nat} {en : Nat → Int32} (h : DE f d e) (hW : WF n d) (hi : i < n) (i12 : i < 12) (hf : i < f) (hk : k < (d 8 i).toInt.toNat) : cmg e en i k = cmg d en i k := by
  have jl := wf_lt hW hi hk
  have e9 : wf0 e i k = wf0 d i k := by unfold wf0; rw [h.1 9 (by decide)]
  have ri := de_row h hf i12
  have rj := de_row h (show wf0 d i k < f by omega) (by omega)
  unfold cmg
  rw [e9]
  unfold wy
  rw [h.1 0 (by decide), h.1 4 (by decide), ri.2.1, ri.2.2.1, rj.2.2.1]
theorem de_tl {d e : gT} {f i : Nat} {b : Int32} (h : DE f d e) (hf : i < f) (i12 : i < 12) : tl e b i = tl d b i := by
  have ri := de_row h hf i12
  funext j
  match j with
  | 0 => exact ri.1
  | 1 => show b - e 1 i = b - d 1 i; rw [h.1 1 (by decide)]
  | 2 => rfl
  | 3 => exact ri.2.2.1
  | 4 => show e 4 i = d 4 i; rw [h.1 4 (by decide)]
  | 5 => rfl
  | j + 6 => rfl
theorem de_ov {cs : Nat → List Int} {d e : gT} {f i : Nat} {b : Int32} (h : DE f d e) (hf : i < f) (i12 : i < 12) : ov cs e i b = ov cs d i b := by
  have ri := de_row h hf i12
  rw [ov_e, ov_e]
  unfold gv
  rw [h.1 0 (by decide), ri.1, de_tl h hf i12]
theorem de_LB {d e : gT} {f n i : Nat} {en : Nat → Int32} {b y : Int32} (h : DE f d e) (hW : WF n d) (hi : i < n) (i12 : i < 12) (hf : i < f) (hb : LB d en i b y) : LB e en i b y := by
  have ri := de_row h hf i12
  unfold LB
  rw [h.1 5 (by decide), h.1 1 (by decide), h.1 8 (by decide), h.1 6 (by decide), ri.2.2.2]
  rcases hb with a | ⟨a, v, b1, c⟩
  · exact Or.inl a
  · refine Or.inr ⟨a, v, kth_c b1 (fun k hk => by rw [de_cmg h hW hi i12 hf hk]), ?_⟩
    rcases c with c | c | ⟨c1, c2, c3, k, k1, k2, k3, k4⟩
    · exact Or.inl c
    · exact Or.inr (Or.inl c)
    · refine Or.inr (Or.inr ⟨c1, c2, c3, k, ?_, ?_, ?_, fun m hm => ?_⟩)
      · rw [h.1 8 (by decide)]; exact k1
      · rw [h.1 9 (by decide)]; exact k2
      · rw [de_cmg h hW hi i12 hf k1]; exact k3
      · rw [de_cmg h hW hi i12 hf (by omega)]; exact k4 m hm
theorem de_LD {cs : Nat → List Int} {d e : gT} {f n i : Nat} {bg en ru by_ : Nat → Int32} (h : DE f d e) (hW : WF n d) (hi : i < n) (i12 : i < 12) (hf : i < f) (hl : LD cs d bg en ru by_ i) : LD cs e bg en ru by_ i := by
  obtain ⟨a, b, c⟩ := hl
  refine ⟨de_LB h hW hi i12 hf a, by rw [de_ov h hf i12]; exact b, ?_⟩
  rw [h.1 2 (by decide), h.1 3 (by decide)]; exact c
/-- from the changed lesson on is enough -/
theorem rf_dy {cs : Nat → List Int} {d e : gT} {f n : Nat} {g g1 : gT} (h : DE f d e) (hW : WF n d) (hWe : WF n e) (n12 : n ≤ 12) (h0 : DY cs d n (g 43) (g 44) (g 45) (g 46)) (hR : RF cs e f n g g1) : DY cs e n (g1 43) (g1 44) (g1 45) (g1 46) := by
  intro i hi
  by_cases c : f ≤ i
  · exact hR.1 i c hi
  · have hf : i < f := by omega
    have s := fun j (hj : j ≤ i) => hR.2.1 j (by omega)
    exact (de_LD h hW hi (by omega) hf (h0 i hi)).c hWe hi (fun j hj => (s j hj).2.1.symm) (s i (Nat.le_refl _)).1.symm (s i (Nat.le_refl _)).2.2.1.symm (s i (Nat.le_refl _)).2.2.2.symm
