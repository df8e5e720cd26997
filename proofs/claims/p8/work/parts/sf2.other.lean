/-! ===== gaps: days with other gaps ===== -/
def gpd (d : gT) (γ : Nat → Int32) : gT := fun k j => if k = 12 ∧ 12 ≤ j ∧ j < 24 then γ (j - 12) else d k j
theorem gpd_k {d : gT} {γ : Nat → Int32} {k : Nat} (hk : k ≠ 12) : gpd d γ k = d k := funext fun _ => if_neg (fun h => hk h.1)
theorem gpd_o {d : gT} {γ : Nat → Int32} {j : Nat} (hj : ¬ (12 ≤ j ∧ j < 24)) : gpd d γ 12 j = d 12 j := if_neg (fun h => hj h.2)
theorem gpd_i {d : gT} {γ : Nat → Int32} {i : Nat} (hi : i < 12) : gpd d γ 12 (12 + i) = γ i := by
  have e : 12 + i - 12 = i := by omega
  show (if 12 = 12 ∧ 12 ≤ 12 + i ∧ 12 + i < 24 then γ (12 + i - 12) else d 12 (12 + i)) = _
  rw [if_pos ⟨rfl, by omega, by omega⟩, e]
def LBC (d : gT) (C : Nat → Int32) (i : Nat) (b y : Int32) : Prop :=
  ((d 5 i).toInt = 2 ∧ b = d 1 i ∧ y = -1) ∨
  ((d 5 i).toInt ≠ 2 ∧ ∃ v : Int32, KTH (fun k => (C k).toInt) (d 8 i).toInt.toNat (if (d 5 i).toInt = 0 then d 8 i else d 6 i).toInt.toNat v.toInt ∧
    ((v.toInt ≤ (d 1 i).toInt ∧ b = d 1 i ∧ y = -1) ∨ ((d 1 i).toInt < v.toInt ∧ (d 1 i + d 12 (36 + i)).toInt < v.toInt ∧ b = d 1 i + d 12 (36 + i) ∧ y = -1) ∨ ((d 1 i).toInt < v.toInt ∧ v.toInt ≤ (d 1 i + d 12 (36 + i)).toInt ∧ b = v ∧ ∃ k, k < (d 8 i).toInt.toNat ∧ y = d 9 (6 * i + k) ∧ C k = v ∧ ∀ m, m < k → C m ≠ v)))
def cmx (d : gT) (γ en : Nat → Int32) (i k : Nat) : Int32 := en (wf0 d i k) + wy d (wf0 d i k) i - γ i
theorem cmg_g {d : gT} {γ en : Nat → Int32} {i : Nat} (hi : i < 12) : cmg (gpd d γ) en i = cmx d γ en i := by
  funext k
  have w : wf0 (gpd d γ) i k = wf0 d i k := by unfold wf0; rw [gpd_k (by decide)]
  have y : wy (gpd d γ) (wf0 d i k) i = wy d (wf0 d i k) i := by
    unfold wy
    rw [gpd_k (k := 0) (by decide), gpd_k (k := 4) (by decide), gpd_o (j := 24 + wf0 d i k) (by omega), gpd_o (j := 24 + i) (by omega)]
  unfold cmg cmx
  rw [w, y, gpd_i hi]
theorem lb_g {d : gT} {γ en : Nat → Int32} {i : Nat} {b y : Int32} (hi : i < 12) : LB (gpd d γ) en i b y ↔ LBC d (cmx d γ en i) i b y := by
  unfold LB FC LBC
  rw [cmg_g hi, gpd_k (k := 5) (by decide), gpd_k (k := 1) (by decide), gpd_k (k := 8) (by decide), gpd_k (k := 6) (by decide), gpd_k (k := 9) (by decide), gpd_o (j := 36 + i) (by omega)]
  all_goals exact Iff.rfl
theorem LBC.c {d : gT} {C C' : Nat → Int32} {i : Nat} {b y : Int32} (hc : ∀ k, k < (d 8 i).toInt.toNat → C k = C' k) (h : LBC d C i b y) : LBC d C' i b y := by
  rcases h with h | ⟨h1, v, h2, h3⟩
  · exact Or.inl h
  · refine Or.inr ⟨h1, v, kth_c h2 (fun k hk => congrArg Int32.toInt (hc k hk)), ?_⟩
    rcases h3 with h3 | h3 | ⟨a, c, f, k, k1, k2, k3, k4⟩
    · exact Or.inl h3
    · exact Or.inr (Or.inl h3)
    · exact Or.inr (Or.inr ⟨a, c, f, k, k1, k2, by rw [← hc k k1]; exact k3, fun m hm => by rw [← hc m (by omega)]; exact k4 m hm⟩)
/-- one lesson of such a day -/
def L1 (cs : Nat → List Int) (d : gT) (γ en : Nat → Int32) (i : Nat) (b e r y : Int32) : Prop := LBC d (cmx d γ en i) i b y ∧ r = ov cs d i b ∧ e = (if d 2 i < b + d 3 i then b + d 3 i else d 2 i) + r
theorem ov_g {cs : Nat → List Int} {d : gT} {γ : Nat → Int32} {i : Nat} {b : Int32} (hi : i < 12) : ov cs (gpd d γ) i b = ov cs d i b := by
  have t : tl (gpd d γ) b i = tl d b i := by
    funext j
    match j with
    | 0 => show gpd d γ 12 i = d 12 i; exact gpd_o (by omega)
    | 1 => show b - gpd d γ 1 i = b - d 1 i; rw [gpd_k (by decide)]
    | 2 => rfl
    | 3 => show gpd d γ 12 (24 + i) = d 12 (24 + i); exact gpd_o (by omega)
    | 4 => show gpd d γ 4 i = d 4 i; rw [gpd_k (by decide)]
    | 5 => rfl
    | j + 6 => rfl
  rw [ov_e, ov_e]
  unfold gv
  rw [t, gpd_k (k := 0) (by decide), gpd_o (j := i) (by omega)]
theorem ld_g {cs : Nat → List Int} {d : gT} {γ bg en ru by_ : Nat → Int32} {i : Nat} (hi : i < 12) : LD cs (gpd d γ) bg en ru by_ i ↔ L1 cs d γ en i (bg i) (en i) (ru i) (by_ i) := by
  unfold LD L1
  rw [lb_g hi, ov_g hi, gpd_k (k := 2) (by decide), gpd_k (k := 3) (by decide)]
  all_goals exact Iff.rfl
theorem L1.c {cs : Nat → List Int} {d : gT} {γ γ' en en' : Nat → Int32} {i : Nat} {b e r y : Int32} (h : L1 cs d γ en i b e r y) (hγ : γ i = γ' i) (he : ∀ k, k < (d 8 i).toInt.toNat → en (wf0 d i k) = en' (wf0 d i k)) : L1 cs d γ' en' i b e r y :=
  ⟨h.1.c (fun k hk => by unfold cmx; rw [he k hk, hγ]), h.2⟩
theorem L1.u {cs : Nat → List Int} {d : gT} {γ en : Nat → Int32} {n i : Nat} {b e r y b' e' r' y' : Int32} (hW : WF n d) (hi : i < n) (n12 : n ≤ 12) (h : L1 cs d γ en i b e r y) (h' : L1 cs d γ en i b' e' r' y') : b = b' ∧ e = e' ∧ r = r' ∧ y = y' := by
  obtain ⟨a1, a2, a3⟩ := h
  obtain ⟨b1, b2, b3⟩ := h'
  obtain ⟨u1, u2⟩ := LB.u (wf_e hW (gpd_k (γ := γ) (by decide)) (gpd_k (by decide)) (gpd_k (by decide)) (gpd_k (by decide))) hi ((lb_g (by omega)).mpr a1) ((lb_g (by omega)).mpr b1)
  rw [← u1] at b2 b3
  have r1 : r = r' := a2.trans b2.symm
  rw [← r1] at b3
  exact ⟨u1, a3.trans b3.symm, r1, u2⟩
theorem l1_b {cs : Nat → List Int} {d : gT} {γ en : Nat → Int32} {n i : Nat} {b e r y : Int32} (hN : NB n d) (hi : i < n) (h : L1 cs d γ en i b e r y) : 0 < e.toInt := by
  obtain ⟨⟨f1, f2, f3⟩, ⟨f4, f5⟩, -⟩ := (hN.1 i hi).1
  obtain ⟨f6, f7⟩ := (hN.1 i hi).2.1
  obtain ⟨hl, hr, he⟩ := h
  have sl : (d 1 i + d 12 (36 + i)).toInt = (d 1 i).toInt + (d 12 (36 + i)).toInt := ic_addc rfl rfl (by omega) (by omega)
  have hb : (d 1 i).toInt ≤ b.toInt ∧ b.toInt ≤ 1098 := by
    rcases hl with ⟨-, b, -⟩ | ⟨-, v, -, ⟨-, b, -⟩ | ⟨-, -, b, -⟩ | ⟨c1, c2, b, -⟩⟩
    · rw [b]; omega
    · rw [b]; omega
    · rw [b]; omega
    · rw [b]; omega
  have o := ov_b (cs := cs) (d := d) (i := i) (b := b)
  rw [← hr] at o
  have s1 : (b + d 3 i).toInt = b.toInt + (d 3 i).toInt := ic_addc rfl rfl (by omega) (by omega)
  by_cases c : d 2 i < b + d 3 i
  · rw [if_pos c] at he
    have e : e.toInt = b.toInt + (d 3 i).toInt + r.toInt := by rw [he]; exact ic_addc s1 rfl (by omega) (by omega)
    omega
  · rw [if_neg c] at he
    have e : e.toInt = (d 2 i).toInt + r.toInt := by rw [he]; exact ic_addc rfl rfl (by omega) (by omega)
    omega
/-- the day of those asked -/
def AD (cs : Nat → List Int) (d : gT) (l : Nat) (A : Nat → Prop) (γ bg en ru by_ : Nat → Int32) : Prop := ∀ i, i ≤ l → A i → L1 cs d γ en i (bg i) (en i) (ru i) (by_ i)
def CLO (d : gT) (A : Nat → Prop) (n : Nat) : Prop := ∀ i, i < n → A i → ∀ k, k < (d 8 i).toInt.toNat → A (wf0 d i k)
theorem AD.u {cs : Nat → List Int} {d : gT} {n l m : Nat} {A : Nat → Prop} {γ bg en ru by_ γ' bg' en' ru' by' : Nat → Int32} (hW : WF n d) (ln : l < n) (n12 : n ≤ 12) (hC : CLO d A n) (h : AD cs d l A γ bg en ru by_) (h' : ∀ i, i < m → A i → L1 cs d γ' en' i (bg' i) (en' i) (ru' i) (by' i)) (ml : m ≤ l + 1) (hγ : ∀ i, i < m → A i → γ i = γ' i) : ∀ i, i < m → A i → en i = en' i := by
  intro i
  induction i using Nat.strongRecOn with
  | ind i ih =>
    intro him hA
    have a := (h i (by omega) hA).c (en' := en') (hγ i him hA) (fun k hk => by
      have w := wf_lt hW (show i < n by omega) hk
      exact ih _ w (by omega) (hC i (by omega) hA k hk))
    exact (a.u hW (by omega) n12 (h' i him hA)).2.1
/-- on time with such gaps -/
def OT (cs : Nat → List Int) (d : gT) (l : Nat) (A : Nat → Prop) (p : Int) (γ : Nat → Int32) : Prop := ∃ bg en ru by_, AD cs d l A γ bg en ru by_ ∧ (en l - d 2 l).toInt ≤ p
theorem OT.c {cs : Nat → List Int} {d : gT} {l : Nat} {A : Nat → Prop} {p : Int} {γ γ' : Nat → Int32} (hγ : ∀ i, i ≤ l → A i → γ i = γ' i) (h : OT cs d l A p γ) : OT cs d l A p γ' := by
  obtain ⟨bg, en, ru, by_, h, le⟩ := h
  exact ⟨bg, en, ru, by_, fun i hi hA => (h i hi hA).c (hγ i hi hA) (fun _ _ => rfl), le⟩
theorem ot_i {cs : Nat → List Int} {d : gT} {n l : Nat} {A : Nat → Prop} {p : Int} {γ bg en ru by_ : Nat → Int32} (hW : WF n d) (ln : l < n) (n12 : n ≤ 12) (hC : CLO d A n) (Al : A l) (h : AD cs d l A γ bg en ru by_) : OT cs d l A p γ ↔ (en l - d 2 l).toInt ≤ p := by
  constructor
  · intro ⟨bg', en', ru', by', h', le⟩
    rw [← h'.u hW ln n12 hC (m := l + 1) (fun i hi hA => h i (by omega) hA) (by omega) (fun _ _ _ => rfl) l (by omega) Al]
    exact le
  · intro le
    exact ⟨bg, en, ru, by_, h, le⟩
def putg (γ : Nat → Int32) (k : Nat) (t : Int32) : Nat → Int32 := fun i => if i = k then t else γ i
theorem putg_at {γ : Nat → Int32} {k : Nat} {t : Int32} : putg γ k t k = t := if_pos rfl
theorem putg_ne {γ : Nat → Int32} {k i : Nat} {t : Int32} (h : i ≠ k) : putg γ k t i = γ i := if_neg h
/-- the same end leads to the same day -/
theorem ot_skip {cs : Nat → List Int} {d : gT} {n l k : Nat} {A : Nat → Prop} {p : Int} {δ π bg en ru by_ : Nat → Int32} {t e b r y b' r' y' : Int32} (hW : WF n d) (ln : l < n) (n12 : n ≤ 12) (hC : CLO d A n) (kl : k ≤ l) (Ak : A k)
    (hπ : ∀ i, i < k → A i → L1 cs d π en i (bg i) (en i) (ru i) (by_ i)) (hδ : ∀ i, i < k → A i → δ i = π i)
    (ht : L1 cs d (putg π k t) en k b e r y) (hj : L1 cs d δ en k b' e r' y') (h : OT cs d l A p δ) : OT cs d l A p (putg δ k t) := by
  obtain ⟨bg2, en2, ru2, by2, h, le⟩ := h
  have same : ∀ i, i < k → A i → en2 i = en i := h.u hW ln n12 hC hπ (by omega) hδ
  have wk : ∀ j, j < (d 8 k).toInt.toNat → en2 (wf0 d k j) = en (wf0 d k j) := fun j hj => same _ (wf_lt hW (by omega) hj) (hC k (by omega) Ak j hj)
  have ek : en2 k = e := (((h k kl Ak).c (γ' := δ) (en' := en) rfl wk).u hW (by omega) n12 hj).2.1
  refine ⟨putg bg2 k b, en2, putg ru2 k r, putg by2 k y, fun i hi hA => ?_, le⟩
  by_cases q : i = k
  · subst q
    rw [putg_at, putg_at, putg_at, ek]
    exact ht.c (by rw [putg_at, putg_at]) (fun j hj => (wk j hj).symm)
  · rw [putg_ne q, putg_ne q, putg_ne q]
    exact (h i hi hA).c (putg_ne q).symm (fun _ _ => rfl)
/-! ===== the minutes of all gaps; rows in their order ===== -/
def SU (s : Int32) (γ : Nat → Int32) : Nat → Int
  | 0 => 0
  | i + 1 => SU s γ i + (if tbi s i = true then (γ i).toInt else 0)
theorem su_t {s : Int32} {γ : Nat → Int32} {i : Nat} (h : tbi s i = true) : SU s γ (i + 1) = SU s γ i + (γ i).toInt := by
  show SU s γ i + (if tbi s i = true then (γ i).toInt else 0) = _
  rw [if_pos h]
theorem su_f {s : Int32} {γ : Nat → Int32} {i : Nat} (h : ¬ tbi s i = true) : SU s γ (i + 1) = SU s γ i := by
  show SU s γ i + (if tbi s i = true then (γ i).toInt else 0) = _
  rw [if_neg h, Int.add_zero]
theorem su_le {s : Int32} {γ δ : Nat → Int32} : ∀ m, (∀ i, i < m → tbi s i = true → (γ i).toInt ≤ (δ i).toInt) → SU s γ m ≤ SU s δ m := by
  intro m
  induction m with
  | zero => intro _; exact Int.le_refl _
  | succ m ih =>
    intro h
    have a := ih (fun i hi => h i (by omega))
    by_cases c : tbi s m = true
    · rw [su_t c, su_t c]
      have := h m (by omega) c
      omega
    · rw [su_f c, su_f c]; exact a
theorem su_lt {s : Int32} {γ δ : Nat → Int32} {i0 : Nat} (t0 : tbi s i0 = true) (l0 : (γ i0).toInt < (δ i0).toInt) : ∀ m, i0 < m → (∀ i, i < m → tbi s i = true → (γ i).toInt ≤ (δ i).toInt) → SU s γ m < SU s δ m := by
  intro m
  induction m with
  | zero => intro q; exact absurd q (Nat.not_lt_zero _)
  | succ m ih =>
    intro q h
    by_cases e : i0 = m
    · have a := su_le (s := s) (γ := γ) (δ := δ) m (fun i hi => h i (by omega))
      rw [← e] at a ⊢
      rw [su_t t0, su_t t0]
      omega
    · have a := ih (by omega) (fun i hi => h i (by omega))
      by_cases c : tbi s m = true
      · rw [su_t c, su_t c]
        have := h m (by omega) c
        omega
      · rw [su_f c, su_f c]; exact a
theorem su_c {s : Int32} {γ δ : Nat → Int32} (m : Nat) (h : ∀ i, i < m → tbi s i = true → γ i = δ i) : SU s γ m = SU s δ m := by
  have a := su_le (s := s) (γ := γ) (δ := δ) m (fun i hi t => by rw [h i hi t]; exact Int.le_refl _)
  have b := su_le (s := s) (γ := δ) (δ := γ) m (fun i hi t => by rw [h i hi t]; exact Int.le_refl _)
  omega
theorem su_mo {s : Int32} {γ : Nat → Int32} {k : Nat} : ∀ m, k ≤ m → (∀ i, k ≤ i → i < m → tbi s i = true → 0 ≤ (γ i).toInt) → SU s γ k ≤ SU s γ m := by
  intro m
  induction m with
  | zero => intro q _; rw [show k = 0 by omega]; exact Int.le_refl _
  | succ m ih =>
    intro q h
    by_cases e : k = m + 1
    · rw [e]; exact Int.le_refl _
    · have a := ih (by omega) (fun i x y => h i x (by omega))
      by_cases c : tbi s m = true
      · rw [su_t c]
        have := h m (by omega) (by omega) c
        omega
      · rw [su_f c]; exact a
theorem su_z {s : Int32} {γ : Nat → Int32} {k : Nat} : ∀ m, k ≤ m → (∀ i, k ≤ i → i < m → tbi s i = true → (γ i).toInt = 0) → SU s γ m = SU s γ k := by
  intro m
  induction m with
  | zero => intro q _; rw [show k = 0 by omega]
  | succ m ih =>
    intro q h
    by_cases e : k = m + 1
    · rw [e]
    · have a := ih (by omega) (fun i x y => h i x (by omega))
      by_cases c : tbi s m = true
      · rw [su_t c, a, h m (by omega) (by omega) c]; omega
      · rw [su_f c]; exact a
def ct (s : Int32) : Nat → Nat
  | 0 => 0
  | i + 1 => ct s i + (if tbi s i = true then 1 else 0)
theorem ct_t {s : Int32} {i : Nat} (h : tbi s i = true) : ct s (i + 1) = ct s i + 1 := by
  show ct s i + (if tbi s i = true then 1 else 0) = _
  rw [if_pos h]
theorem ct_f {s : Int32} {i : Nat} (h : ¬ tbi s i = true) : ct s (i + 1) = ct s i := by
  show ct s i + (if tbi s i = true then 1 else 0) = _
  rw [if_neg h, Nat.add_zero]
theorem ct_mo {s : Int32} {i : Nat} : ∀ j, i ≤ j → ct s i ≤ ct s j := by
  intro j
  induction j with
  | zero => intro q; rw [show i = 0 by omega]; exact Nat.le_refl _
  | succ j ih =>
    intro q
    by_cases e : i = j + 1
    · rw [e]; exact Nat.le_refl _
    · have a := ih (by omega)
      by_cases c : tbi s j = true
      · rw [ct_t c]; omega
      · rw [ct_f c]; exact a
theorem su_4 {s : Int32} {γ : Nat → Int32} : ∀ m, (∀ i, i < m → tbi s i = true → (γ i).toInt ≤ 4) → SU s γ m ≤ 4 * (ct s m : Int) := by
  intro m
  induction m with
  | zero => intro _; exact Int.le_refl _
  | succ m ih =>
    intro h
    have a := ih (fun i hi => h i (by omega))
    by_cases c : tbi s m = true
    · rw [su_t c, ct_t c]
      have := h m (by omega) c
      omega
    · rw [su_f c, ct_f c]; exact a
/-- the rows that may be taken; those with nothing where nothing is asked -/
def RWg (n : Nat) (s : Int32) (own γ : Nat → Int32) : Prop := ∀ i, i < n → (tbi s i = true → 0 ≤ (γ i).toInt ∧ (γ i).toInt ≤ 4) ∧ (¬ tbi s i = true → γ i = own i)
def RA (n : Nat) (s a : Int32) (own γ : Nat → Int32) : Prop := RWg n s own γ ∧ ∀ i, i < n → tbi s i = true → ¬ tbi a i = true → γ i = 0
def LEx (γ δ : Nat → Int32) : Nat → Nat → Prop
  | _, 0 => True
  | k, r + 1 => (γ k).toInt < (δ k).toInt ∨ (γ k = δ k ∧ LEx γ δ (k + 1) r)
theorem lex_eq {γ δ : Nat → Int32} : ∀ r k, (∀ i, k ≤ i → i < k + r → γ i = δ i) → LEx γ δ k r := by
  intro r
  induction r with
  | zero => intro k _; exact trivial
  | succ r ih => intro k h; exact Or.inr ⟨h k (by omega) (by omega), ih (k + 1) (fun i x y => h i (by omega) (by omega))⟩
theorem lex_anti {γ δ : Nat → Int32} : ∀ r k, LEx γ δ k r → LEx δ γ k r → ∀ i, k ≤ i → i < k + r → γ i = δ i := by
  intro r
  induction r with
  | zero => intro k _ _ i x y; omega
  | succ r ih =>
    intro k h h' i x y
    rcases h with h | ⟨h1, h2⟩
    · rcases h' with h' | ⟨h1', -⟩
      · omega
      · rw [h1'] at h; omega
    · rcases h' with h' | ⟨-, h2'⟩
      · rw [h1] at h'; omega
      · by_cases e : i = k
        · rw [e]; exact h1
        · exact ih (k + 1) h2 h2' i (by omega) (by omega)
theorem lex_c {γ δ γ' δ' : Nat → Int32} : ∀ r k, (∀ i, k ≤ i → i < k + r → γ i = γ' i ∧ δ i = δ' i) → LEx γ δ k r → LEx γ' δ' k r := by
  intro r
  induction r with
  | zero => intro k _ _; exact trivial
  | succ r ih =>
    intro k h q
    obtain ⟨a, b⟩ := h k (by omega) (by omega)
    rcases q with q | ⟨q1, q2⟩
    · exact Or.inl (by rw [← a, ← b]; exact q)
    · exact Or.inr ⟨by rw [← a, ← b]; exact q1, ih (k + 1) (fun i x y => h i (by omega) (by omega)) q2⟩
theorem lex_lt {γ δ : Nat → Int32} {n k : Nat} (hk : k < n) (h : (γ k).toInt < (δ k).toInt) : LEx γ δ k (n - k) := by
  rw [show n - k = (n - (k + 1)) + 1 by omega]
  exact Or.inl h
theorem lex_up {γ δ : Nat → Int32} {n k : Nat} (hk : k < n) (h : γ k = δ k) (h1 : LEx γ δ (k + 1) (n - (k + 1))) : LEx γ δ k (n - k) := by
  rw [show n - k = (n - (k + 1)) + 1 by omega]
  exact Or.inr ⟨h, h1⟩
/-- the best row there is -/
def BT (n : Nat) (O : (Nat → Int32) → Prop) (s : Int32) (own : Nat → Int32) (F : Int) (B : Nat → Int32) : Prop := RWg n s own B ∧ O B ∧ SU s B n = F ∧ ∀ δ, RWg n s own δ → O δ → F < SU s δ n ∨ (F = SU s δ n ∧ LEx B δ 0 n)
theorem bt_u {n : Nat} {O : (Nat → Int32) → Prop} {s : Int32} {own : Nat → Int32} {F F' : Int} {B B' : Nat → Int32} (h : BT n O s own F B) (h' : BT n O s own F' B') : F = F' ∧ ∀ i, i < n → B i = B' i := by
  obtain ⟨a1, a2, a3, a4⟩ := h
  obtain ⟨b1, b2, b3, b4⟩ := h'
  rcases a4 B' b1 b2 with x | ⟨x1, x2⟩
  · rcases b4 B a1 a2 with y | ⟨y1, -⟩
    · omega
    · omega
  · rcases b4 B a1 a2 with y | ⟨y1, y2⟩
    · omega
    · exact ⟨by omega, fun i hi => lex_anti n 0 x2 y2 i (by omega) (by omega)⟩
/-- what a search among E makes of the best so far -/
def RSk (n : Nat) (O : (Nat → Int32) → Prop) (s : Int32) (k : Nat) (E : (Nat → Int32) → Prop) (F0 : Int32) (B0 : Nat → Int32) (F1 : Int32) (B1 : Nat → Int32) : Prop :=
  (F1 = F0 ∧ B1 = B0 ∧ ∀ δ, E δ → O δ → F0.toInt ≤ SU s δ n) ∨ (F1.toInt < F0.toInt ∧ E B1 ∧ O B1 ∧ SU s B1 n = F1.toInt ∧ ∀ δ, E δ → O δ → F1.toInt < SU s δ n ∨ (F1.toInt = SU s δ n ∧ LEx B1 δ k (n - k)))
theorem RSk.le {n : Nat} {O : (Nat → Int32) → Prop} {s : Int32} {k : Nat} {E : (Nat → Int32) → Prop} {F0 F1 : Int32} {B0 B1 : Nat → Int32} (h : RSk n O s k E F0 B0 F1 B1) : F1.toInt ≤ F0.toInt ∧ ∀ δ, E δ → O δ → F1.toInt ≤ SU s δ n := by
  rcases h with ⟨f, -, u⟩ | ⟨f, -, -, -, u⟩
  · rw [f]; exact ⟨Int.le_refl _, u⟩
  · refine ⟨by omega, fun δ a b => ?_⟩
    rcases u δ a b with w | w
    · omega
    · omega
theorem RSk.join {n : Nat} {O : (Nat → Int32) → Prop} {s : Int32} {k : Nat} {E1 E2 E : (Nat → Int32) → Prop} {F0 F1 F2 : Int32} {B0 B1 B2 : Nat → Int32} (hk : k < n) (h1 : RSk n O s k E1 F0 B0 F1 B1) (h2 : RSk n O s k E2 F1 B1 F2 B2) (lt : ∀ B δ, E1 B → E2 δ → (B k).toInt < (δ k).toInt) (i1 : ∀ δ, E1 δ → E δ) (i2 : ∀ δ, E2 δ → E δ) (iE : ∀ δ, E δ → E1 δ ∨ E2 δ) : RSk n O s k E F0 B0 F2 B2 := by
  have l1 := h1.le
  have l2 := h2.le
  rcases h2 with ⟨f2, b2, u2⟩ | ⟨f2, e2, o2, s2, u2⟩
  · rw [f2, b2]
    rcases h1 with ⟨f1, b1, u1⟩ | ⟨f1, e1, o1, s1, u1⟩
    · refine Or.inl ⟨f1, b1, fun δ hδ hO => ?_⟩
      rcases iE δ hδ with q | q
      · exact u1 δ q hO
      · have := u2 δ q hO
        rw [f1] at this; exact this
    · refine Or.inr ⟨f1, i1 _ e1, o1, s1, fun δ hδ hO => ?_⟩
      rcases iE δ hδ with q | q
      · exact u1 δ q hO
      · have a := u2 δ q hO
        by_cases c : F1.toInt < SU s δ n
        · exact Or.inl c
        · exact Or.inr ⟨by omega, lex_lt hk (lt _ _ e1 q)⟩
  · refine Or.inr ⟨by have := l1.1; omega, i2 _ e2, o2, s2, fun δ hδ hO => ?_⟩
    rcases iE δ hδ with q | q
    · have := l1.2 δ q hO
      exact Or.inl (by omega)
    · exact u2 δ q hO
theorem RSk.up {n : Nat} {O : (Nat → Int32) → Prop} {s : Int32} {k : Nat} {E : (Nat → Int32) → Prop} {F0 F1 : Int32} {B0 B1 : Nat → Int32} (hk : k < n) (h : RSk n O s (k + 1) E F0 B0 F1 B1) (he : ∀ B δ, E B → E δ → B k = δ k) : RSk n O s k E F0 B0 F1 B1 := by
  rcases h with h | ⟨f1, e1, o1, s1, u1⟩
  · exact Or.inl h
  · refine Or.inr ⟨f1, e1, o1, s1, fun δ hδ hO => ?_⟩
    rcases u1 δ hδ hO with w | ⟨w1, w2⟩
    · exact Or.inl w
    · exact Or.inr ⟨w1, lex_up hk (he _ _ e1 hδ) w2⟩
theorem RSk.more {n : Nat} {O : (Nat → Int32) → Prop} {s : Int32} {k : Nat} {E E' : (Nat → Int32) → Prop} {F0 F1 : Int32} {B0 B1 : Nat → Int32} (h : RSk n O s k E F0 B0 F1 B1) (hE : ∀ δ, E δ → E' δ) (hn : ∀ δ, E' δ → O δ → E δ ∨ ∃ δ', E δ' ∧ O δ' ∧ SU s δ' n < SU s δ n) : RSk n O s k E' F0 B0 F1 B1 := by
  have l := h.le
  rcases h with ⟨f, b, u⟩ | ⟨f, e, o, su, u⟩
  · refine Or.inl ⟨f, b, fun δ hδ hO => ?_⟩
    rcases hn δ hδ hO with q | ⟨δ', q1, q2, q3⟩
    · exact u δ q hO
    · have := u δ' q1 q2
      omega
  · refine Or.inr ⟨f, hE _ e, o, su, fun δ hδ hO => ?_⟩
    rcases hn δ hδ hO with q | ⟨δ', q1, q2, q3⟩
    · exact u δ q hO
    · have := l.2 δ' q1 q2
      exact Or.inl (by omega)
