/-! ===== pure functions of methods: what they are made of, rows that carry them ===== -/
def ck {α : Type} (i : Int32) (N : Nat) (K : Option α) : Option α := if 0 ≤ i.toInt ∧ i.toInt < (N : Int) then K else none
def cnz {α : Type} (y : Int32) (K : Option α) : Option α := if y = 0 then none else K
def cnzL {α : Type} (y : Int64) (K : Option α) : Option α := if y = 0 then none else K
def ckb {α : Type} (x : Int32) (K : Option α) : Option α := if narrow .boolean (.int x) = .int x then K else none
def lti {α : Type} (v : Int32) (K : Int32 → Option α) : Option α := K v
def ltl {α : Type} (v : Int64) (K : Int64 → Option α) : Option α := K v
def ltn {α : Type} (v : Nat) (K : Nat → Option α) : Option α := K v
def sti {α : Type} (g : Nat → Nat → Int32) (k j : Nat) (x : Int32) (K : (Nat → Nat → Int32) → Option α) : Option α := K (upd2 g k j x)
def stA {α : Type} (g : Nat → Nat → Int32) (k : Nat) (f : Nat → Int32) (K : (Nat → Nat → Int32) → Option α) : Option α := K (updA g k f)
def stl {α : Type} (L : Nat → Nat → Int64) (k j : Nat) (x : Int64) (K : (Nat → Nat → Int64) → Option α) : Option α := K (updL L k j x)
def cb {α β : Type} (m : Option (β × zS)) (K : β → (Nat → Nat → Int32) → (Nat → Nat → Int64) → Option α) : Option α := match m with
  | none => none
  | some (x, s) => K x s.1 s.2
def whileK {α ρ : Type} (step : (α → Option ρ) → α → Option ρ) : Nat → α → Option ρ
  | 0, _ => none
  | n + 1, v => step (whileK step n) v
theorem ck_some {α : Type} {i : Int32} {N : Nat} {K : Option α} {r : α} (h : ck i N K = some r) : 0 ≤ i.toInt ∧ i.toInt < (N : Int) ∧ K = some r := by
  unfold ck at h
  split at h
  · rename_i c; exact ⟨c.1, c.2, h⟩
  · exact nomatch h
theorem ck_eq {α : Type} {i : Int32} {N : Nat} {K : Option α} (h1 : 0 ≤ i.toInt) (h2 : i.toInt < (N : Int)) : ck i N K = K := if_pos ⟨h1, h2⟩
theorem cnz_some {α : Type} {y : Int32} {K : Option α} {r : α} (h : cnz y K = some r) : ¬ y = 0 ∧ K = some r := by
  unfold cnz at h
  split at h
  · exact nomatch h
  · rename_i c; exact ⟨c, h⟩
theorem cnzL_some {α : Type} {y : Int64} {K : Option α} {r : α} (h : cnzL y K = some r) : ¬ y = 0 ∧ K = some r := by
  unfold cnzL at h
  split at h
  · exact nomatch h
  · rename_i c; exact ⟨c, h⟩
theorem ckb_some {α : Type} {x : Int32} {K : Option α} {r : α} (h : ckb x K = some r) : narrow .boolean (.int x) = .int x ∧ K = some r := by
  unfold ckb at h
  split at h
  · rename_i c; exact ⟨c, h⟩
  · exact nomatch h
theorem cb_some {α β : Type} {m : Option (β × zS)} {K : β → (Nat → Nat → Int32) → (Nat → Nat → Int64) → Option α} {r : α} (h : cb m K = some r) : ∃ x g L, m = some (x, (g, L)) ∧ K x g L = some r := by
  unfold cb at h
  split at h
  · exact nomatch h
  · rename_i x s; exact ⟨x, s.1, s.2, rfl, h⟩
theorem cb_eq {α β : Type} {m : Option (β × zS)} {K : β → (Nat → Nat → Int32) → (Nat → Nat → Int64) → Option α} {x : β} {s : zS} (h : m = some (x, s)) : cb m K = K x s.1 s.2 := by rw [h]; rfl
theorem ite_t {α : Type} {c : Prop} [d : Decidable c] {A B : Option α} {r : α} (hc : c) (h : (if c then A else B) = some r) : A = some r := by rw [if_pos hc] at h; exact h
theorem ite_e {α : Type} {c : Prop} [d : Decidable c] {A B : Option α} {r : α} (hc : ¬ c) (h : (if c then A else B) = some r) : B = some r := by rw [if_neg hc] at h; exact h
theorem while_ind {α ρ : Type} {step : (α → Option ρ) → α → Option ρ} {r : ρ} {P : α → Prop} (H : ∀ k : α → Option ρ, (∀ v, k v = some r → P v) → ∀ v, step k v = some r → P v) : ∀ n v, whileK step n v = some r → P v := by
  intro n
  induction n with
  | zero => intro v h; exact nomatch h
  | succ n ih => intro v h; exact H _ ih v h
theorem while_rule {α ρ : Type} {step : (α → Option ρ) → α → Option ρ} {Q : ρ → Prop} (I : α → Prop) (m : α → Nat) (H : ∀ (k : α → Option ρ) v, I v → (∀ v', I v' → m v' < m v → ∃ r, k v' = some r ∧ Q r) → ∃ r, step k v = some r ∧ Q r) : ∀ n v, I v → m v < n → ∃ r, whileK step n v = some r ∧ Q r := by
  intro n
  induction n with
  | zero => intro v _ h; exact absurd h (Nat.not_lt_zero _)
  | succ n ih => intro v hv h; exact H _ v hv (fun v' h1 h2 => ih v' h1 (by omega))
theorem z_none {g : Nat → Nat → Int32} : zI (fun _ _ => none) g := fun _ _ _ _ h => nomatch h
def ckr {α : Type} (q : Nat) (K : Option α) : Option α := if 25 ≤ q ∧ q ≤ 28 then K else none
theorem ckr_some {α : Type} {q : Nat} {K : Option α} {r : α} (h : ckr q K = some r) : 25 ≤ q ∧ q ≤ 28 ∧ K = some r := by
  unfold ckr at h
  split at h
  · rename_i c; exact ⟨c.1, c.2, h⟩
  · exact nomatch h
def cbx {α β : Type} (m : Option (Except String β × zS)) (K : β → (Nat → Nat → Int32) → (Nat → Nat → Int64) → Option (Except String α × zS)) : Option (Except String α × zS) := match m with
  | none => none
  | some (.error E, s) => some (.error E, s)
  | some (.ok x, s) => K x s.1 s.2
def cbq {α β : Type} (q : Except String β) (g : Nat → Nat → Int32) (L : Nat → Nat → Int64) (K : β → (Nat → Nat → Int32) → (Nat → Nat → Int64) → Option (Except String α × zS)) : Option (Except String α × zS) := match q with
  | .error E => some (.error E, (g, L))
  | .ok x => K x g L
theorem cbx_some {α β : Type} {m : Option (Except String β × zS)} {K : β → (Nat → Nat → Int32) → (Nat → Nat → Int64) → Option (Except String α × zS)} {r : Except String α × zS} (h : cbx m K = some r) : ∃ q g L, m = some (q, (g, L)) ∧ cbq q g L K = some r := by
  match m, h with
  | none, h => exact nomatch h
  | some (.error E, (g, L)), h => exact ⟨.error E, g, L, rfl, h⟩
  | some (.ok x, (g, L)), h => exact ⟨.ok x, g, L, rfl, h⟩
theorem cbx_ok {α β : Type} {q : Except String β} {g : Nat → Nat → Int32} {L : Nat → Nat → Int64} {K : β → (Nat → Nat → Int32) → (Nat → Nat → Int64) → Option (Except String α × zS)} {r : Except String α × zS} {x : β} (h : cbq q g L K = some r) (e : q = .ok x) : K x g L = some r := by subst e; exact h
theorem cbx_err {α β : Type} {q : Except String β} {g : Nat → Nat → Int32} {L : Nat → Nat → Int64} {K : β → (Nat → Nat → Int32) → (Nat → Nat → Int64) → Option (Except String α × zS)} {res : Except String α} {s' : zS} {E : String} (h : cbq q g L K = some (res, s')) (e : q = .error E) : res = .error E ∧ s' = (g, L) := by
  subst e; cases h; exact ⟨rfl, rfl⟩
def swp {α : Type} (g : Nat → Nat → Int32) (L : Nat → Nat → Int64) (K : (Nat → Nat → Int32) → (Nat → Nat → Int64) → Option α) : Option α := K (fun k => g (sg k)) (fun k => L (sg k))
theorem swp_some {α : Type} {g : Nat → Nat → Int32} {L : Nat → Nat → Int64} {K : (Nat → Nat → Int32) → (Nat → Nat → Int64) → Option α} {r : α} (h : swp g L K = some r) : ∃ g2 L2, (fun k => g (sg k)) = g2 ∧ (fun k => L (sg k)) = L2 ∧ K g2 L2 = some r := ⟨_, _, rfl, rfl, h⟩
section YR
variable {p : Program} {l : Launch} {e : Env} {R : Room} {s : State} {m : MethodId} {args : Array Value} {below : List Frame} {meth : Method} {c : Code} {H : Heap} {locs : List Loc} {cells slots : Nat} {Q : State → Prop} {cc : ByteArray} {nL pc : Nat} {ls : Array Slot} {rest st0 : List Value} {G : kG} {own : String} {A : Nat → Prop} {Z : Nat → zSh} {n : Nat} {a : Nat → Nat} {g : Nat → Nat → Int32} {L : Nat → Nat → Int64} {α : Type} {r : α}
theorem y_let {v : Int32} {K : Int32 → Option α} (h : lti v K = some r) (kk : ∀ x, K x = some r → W p l e R s m args below meth c H locs cells slots Q (F0 m pc ls (.int x :: rest))) : W p l e R s m args below meth c H locs cells slots Q (F0 m pc ls (.int v :: rest)) := kk v h
theorem y_letL {v : Int64} {K : Int64 → Option α} (h : ltl v K = some r) (kk : ∀ x, K x = some r → W p l e R s m args below meth c H locs cells slots Q (F0 m pc ls (.long x :: rest))) : W p l e R s m args below meth c H locs cells slots Q (F0 m pc ls (.long v :: rest)) := kk v h
theorem y_ald {k N : Nat} {i : Int32} {K : Option α} (C : kC G p s m c cc nL own A) (hP : va_P G.1 vwCl (zw G Z n a g L) H) (hk : k < n) (hZ : Z k = .inr (0, N)) (hdg : decode cc pc = .ok (.iaload, 1)) (h : ck i N K = some r) (kk : K = some r → W p l e R s m args below meth c H locs cells slots Q (F0 m (pc + 1) ls (.int (g k i.toNatClampNeg) :: rest))) : W p l e R s m args below meth c H locs cells slots Q (F0 m pc ls (.int i :: .ref (a k) :: rest)) :=
  k_iald C hP k (zat hk hZ) (vp_in_iff.mpr ⟨(ck_some h).1, (ck_some h).2.1⟩) hdg (kk (ck_some h).2.2)
theorem y_zald {k N : Nat} {i : Int32} {K : Option α} (C : kC G p s m c cc nL own A) (hP : va_P G.1 vwCl (zw G Z n a g L) H) (hk : k < n) (hZ : Z k = .inr (1, N)) (hdg : decode cc pc = .ok (.baload, 1)) (h : ck i N K = some r) (kk : K = some r → W p l e R s m args below meth c H locs cells slots Q (F0 m (pc + 1) ls (.int (g k i.toNatClampNeg) :: rest))) : W p l e R s m args below meth c H locs cells slots Q (F0 m pc ls (.int i :: .ref (a k) :: rest)) :=
  k_zald C hP k (zat hk hZ) (vp_in_iff.mpr ⟨(ck_some h).1, (ck_some h).2.1⟩) hdg (kk (ck_some h).2.2)
theorem y_ast {k N : Nat} {i x : Int32} {K : (Nat → Nat → Int32) → Option α} (C : kC G p s m c cc nL own A) (hP : va_P G.1 vwCl (zw G Z n a g L) H) (hD : va_D A (zw G Z n a g L)) (hS : va_S A s.heap H locs) (hk : k < n) (hZ : Z k = .inr (0, N)) (hdg : decode cc pc = .ok (.iastore, 1)) (h : ck i N (sti g k i.toNatClampNeg x K) = some r) (kk : ∀ (g1 : Nat → Nat → Int32) (H1 : Heap) (locs1 : List Loc), K g1 = some r → va_P G.1 vwCl (zw G Z n a g1 L) H1 → va_D A (zw G Z n a g1 L) → va_S A s.heap H1 locs1 → W p l e R s m args below meth c H1 locs1 cells slots Q (F0 m (pc + 1) ls rest)) : W p l e R s m args below meth c H locs cells slots Q (F0 m pc ls (.int x :: .int i :: .ref (a k) :: rest)) :=
  x_ast z_none C hP hD hS hk hZ (ck_some h).1 (ck_some h).2.1 hdg (fun g1 H1 locs1 e1 _ h1 h2 h3 => kk g1 H1 locs1 (by rw [e1]; exact (ck_some h).2.2) h1 h2 h3)
theorem y_zast {k N : Nat} {i x : Int32} {K : (Nat → Nat → Int32) → Option α} (C : kC G p s m c cc nL own A) (hP : va_P G.1 vwCl (zw G Z n a g L) H) (hD : va_D A (zw G Z n a g L)) (hS : va_S A s.heap H locs) (hk : k < n) (hZ : Z k = .inr (1, N)) (hdg : decode cc pc = .ok (.bastore, 1)) (h : ck i N (sti g k i.toNatClampNeg (vp_nar .boolean x) K) = some r) (kk : ∀ (g1 : Nat → Nat → Int32) (H1 : Heap) (locs1 : List Loc), K g1 = some r → va_P G.1 vwCl (zw G Z n a g1 L) H1 → va_D A (zw G Z n a g1 L) → va_S A s.heap H1 locs1 → W p l e R s m args below meth c H1 locs1 cells slots Q (F0 m (pc + 1) ls rest)) : W p l e R s m args below meth c H locs cells slots Q (F0 m pc ls (.int x :: .int i :: .ref (a k) :: rest)) :=
  x_zast z_none C hP hD hS hk hZ (ck_some h).1 (ck_some h).2.1 hdg (fun g1 H1 locs1 e1 _ h1 h2 h3 => kk g1 H1 locs1 (by rw [e1]; exact (ck_some h).2.2) h1 h2 h3)
theorem y_puti {index ci N k j : Nat} {ft : Nat → Option (Option Nat)} {ty : FieldType} {O : String} {x : Int32} {K : (Nat → Nat → Int32) → Option α} (Lk : kFG own index ci N j) (FT : kFT ci j ty false O) (C : kC G p s m c cc nL own A) (hP : va_P G.1 vwCl (zw G Z n a g L) H) (hD : va_D A (zw G Z n a g L)) (hS : va_S A s.heap H locs) (hk : k < n) (hZ : Z k = .inl (ci, N, ft)) (hf : ft j = none) (hn : narrow ty (.int x) = .int x) (hfit : fits ty (.int x) = true) (hdg : decode cc pc = .ok (.putfield index, 3)) (h : sti g k j x K = some r) (kk : ∀ (g1 : Nat → Nat → Int32) (H1 : Heap) (locs1 : List Loc), K g1 = some r → va_P G.1 vwCl (zw G Z n a g1 L) H1 → va_D A (zw G Z n a g1 L) → va_S A s.heap H1 locs1 → W p l e R s m args below meth c H1 locs1 cells slots Q (F0 m (pc + 3) ls rest)) : W p l e R s m args below meth c H locs cells slots Q (F0 m pc ls (.int x :: .ref (a k) :: rest)) :=
  x_puti z_none Lk FT C hP hD hS hk hZ hf hn hfit hdg (fun g1 H1 locs1 e1 _ h1 h2 h3 => kk g1 H1 locs1 (by rw [e1]; exact h) h1 h2 h3)
theorem y_putl {index ci N k j : Nat} {ft : Nat → Option (Option Nat)} {O : String} {x : Int64} {K : (Nat → Nat → Int64) → Option α} (Lk : kFG own index ci N j) (FT : kFT ci j .long false O) (C : kC G p s m c cc nL own A) (hP : va_P G.1 vwCl (zw G Z n a g L) H) (hD : va_D A (zw G Z n a g L)) (hS : va_S A s.heap H locs) (hk : k < n) (hZ : Z k = .inl (ci, N, ft)) (hf : ft j = some none) (hdg : decode cc pc = .ok (.putfield index, 3)) (h : stl L k j x K = some r) (kk : ∀ (L1 : Nat → Nat → Int64) (H1 : Heap) (locs1 : List Loc), K L1 = some r → va_P G.1 vwCl (zw G Z n a g L1) H1 → va_D A (zw G Z n a g L1) → va_S A s.heap H1 locs1 → W p l e R s m args below meth c H1 locs1 cells slots Q (F0 m (pc + 3) ls rest)) : W p l e R s m args below meth c H locs cells slots Q (F0 m pc ls (.long x :: .ref (a k) :: rest)) :=
  x_putl Lk FT C hP hD hS hk hZ hf hdg (fun L1 H1 locs1 e1 h1 h2 h3 => kk L1 H1 locs1 (by rw [e1]; exact h) h1 h2 h3)
theorem y_iret {mc ms : Nat} {x res : Int32} {s' : zS} (C : kC G p s m c cc nL own A) (hr : meth.sig.returnType = some .int) (hlk : meth.locks = false) (hP : va_P G.1 vwCl (zw G Z n a g L) H) (hD : va_D A (zw G Z n a g L)) (hS : va_S A s.heap H locs) (h : (some (x, (g, L)) : Option (Int32 × zS)) = some (res, s')) (hc : cells ≤ mc) (hs : slots ≤ ms) (hdg : decode cc pc = .ok (.ireturn, 1)) :
    W p l e R s m args below meth c H locs cells slots (MQ below (kQi G (S := Unit) (fun r' _ => r' = res) (fun _ => zw G Z n a s'.1 s'.2) A) args s mc ms A) (F0 m pc ls [.int x]) := by
  cases h; exact x_iret C hr hlk hP hD hS () rfl rfl hc hs hdg
theorem y_zret {mc ms : Nat} {x res : Int32} {s' : zS} (C : kC G p s m c cc nL own A) (hr : meth.sig.returnType = some .boolean) (hlk : meth.locks = false) (hP : va_P G.1 vwCl (zw G Z n a g L) H) (hD : va_D A (zw G Z n a g L)) (hS : va_S A s.heap H locs) (h : ckb x (some (x, (g, L)) : Option (Int32 × zS)) = some (res, s')) (hc : cells ≤ mc) (hs : slots ≤ ms) (hdg : decode cc pc = .ok (.ireturn, 1)) :
    W p l e R s m args below meth c H locs cells slots (MQ below (kQi G (S := Unit) (fun r' _ => r' = res) (fun _ => zw G Z n a s'.1 s'.2) A) args s mc ms A) (F0 m pc ls [.int x]) := by
  obtain ⟨hz, h⟩ := ckb_some h
  cases h; exact x_zret C hr hlk hz hP hD hS () rfl rfl hc hs hdg
theorem y_lret {mc ms : Nat} {x res : Int64} {s' : zS} (C : kC G p s m c cc nL own A) (hr : meth.sig.returnType = some .long) (hlk : meth.locks = false) (hP : va_P G.1 vwCl (zw G Z n a g L) H) (hD : va_D A (zw G Z n a g L)) (hS : va_S A s.heap H locs) (h : (some (x, (g, L)) : Option (Int64 × zS)) = some (res, s')) (hc : cells ≤ mc) (hs : slots ≤ ms) (hdg : decode cc pc = .ok (.lreturn, 1)) :
    W p l e R s m args below meth c H locs cells slots (MQ below (kQl G (S := Unit) (fun r' _ => r' = res) (fun _ => zw G Z n a s'.1 s'.2) A) args s mc ms A) (F0 m pc ls [.long x]) := by
  cases h; exact x_lret C hr hlk hP hD hS () rfl rfl hc hs hdg
theorem y_vret {mc ms : Nat} {res : Unit} {s' : zS} (C : kC G p s m c cc nL own A) (hr : meth.sig.returnType = none) (hlk : meth.locks = false) (hP : va_P G.1 vwCl (zw G Z n a g L) H) (hD : va_D A (zw G Z n a g L)) (hS : va_S A s.heap H locs) (h : (some ((), (g, L)) : Option (Unit × zS)) = some (res, s')) (hc : cells ≤ mc) (hs : slots ≤ ms) (hdg : decode cc pc = .ok (.return_, 1)) :
    W p l e R s m args below meth c H locs cells slots (MQ below (kQv G (S := Unit) (fun _ => True) (fun _ => zw G Z n a s'.1 s'.2) A) args s mc ms A) (F0 m pc ls []) := by
  cases h; exact x_vret C hr hlk hP hD hS () rfl trivial hc hs hdg
theorem y_aret {mc ms : Nat} {q res : Nat} {s' : zS} (C : kC G p s m c cc nL own A) (hr : meth.sig.returnType = some (.array .int)) (hlk : meth.locks = false) (hP : va_P G.1 vwCl (zw G Z n a g L) H) (hD : va_D A (zw G Z n a g L)) (hS : va_S A s.heap H locs) (h : (some (q, (g, L)) : Option (Nat × zS)) = some (res, s')) (hc : cells ≤ mc) (hs : slots ≤ ms) (hdg : decode cc pc = .ok (.areturn, 1)) :
    W p l e R s m args below meth c H locs cells slots (MQ below (kQr G (S := Unit) (fun _ => True) (fun _ => zw G Z n a s'.1 s'.2) (fun _ => a res) A) args s mc ms A) (F0 m pc ls [.ref (a q)]) := by
  cases h; exact x_aret C hr hlk hP hD hS () rfl rfl trivial hc hs hdg
theorem y_xiret {XC : String → State → State → Prop} {mc ms : Nat} {x : Int32} {res : Except String Int32} {s' : zS} (C : kC G p s m c cc nL own A) (hr : meth.sig.returnType = some .int) (hlk : meth.locks = false) (hP : va_P G.1 vwCl (zw G Z n a g L) H) (hD : va_D A (zw G Z n a g L)) (hS : va_S A s.heap H locs) (h : (some (.ok x, (g, L)) : Option (Except String Int32 × zS)) = some (res, s')) (hc : cells ≤ mc) (hs : slots ≤ ms) (hdg : decode cc pc = .ok (.ireturn, 1)) :
    W p l e R s m args below meth c H locs cells slots (vx_MQ below (kQi G (S := Unit) (fun r' _ => res = .ok r') (fun _ => zw G Z n a s'.1 s'.2) A) XC args s mc ms A) (F0 m pc ls [.int x]) := by
  cases h; exact vx_ret (x_iret C hr hlk hP hD hS () rfl rfl hc hs hdg)
theorem y_xlret {XC : String → State → State → Prop} {mc ms : Nat} {x : Int64} {res : Except String Int64} {s' : zS} (C : kC G p s m c cc nL own A) (hr : meth.sig.returnType = some .long) (hlk : meth.locks = false) (hP : va_P G.1 vwCl (zw G Z n a g L) H) (hD : va_D A (zw G Z n a g L)) (hS : va_S A s.heap H locs) (h : (some (.ok x, (g, L)) : Option (Except String Int64 × zS)) = some (res, s')) (hc : cells ≤ mc) (hs : slots ≤ ms) (hdg : decode cc pc = .ok (.lreturn, 1)) :
    W p l e R s m args below meth c H locs cells slots (vx_MQ below (kQl G (S := Unit) (fun r' _ => res = .ok r') (fun _ => zw G Z n a s'.1 s'.2) A) XC args s mc ms A) (F0 m pc ls [.long x]) := by
  cases h; exact vx_ret (x_lret C hr hlk hP hD hS () rfl rfl hc hs hdg)
theorem y_xvret {XC : String → State → State → Prop} {mc ms : Nat} {res : Except String Unit} {s' : zS} (C : kC G p s m c cc nL own A) (hr : meth.sig.returnType = none) (hlk : meth.locks = false) (hP : va_P G.1 vwCl (zw G Z n a g L) H) (hD : va_D A (zw G Z n a g L)) (hS : va_S A s.heap H locs) (h : (some (.ok (), (g, L)) : Option (Except String Unit × zS)) = some (res, s')) (hc : cells ≤ mc) (hs : slots ≤ ms) (hdg : decode cc pc = .ok (.return_, 1)) :
    W p l e R s m args below meth c H locs cells slots (vx_MQ below (kQv G (S := Unit) (fun _ => res = .ok ()) (fun _ => zw G Z n a s'.1 s'.2) A) XC args s mc ms A) (F0 m pc ls []) := by
  cases h; exact vx_ret (x_vret C hr hlk hP hD hS () rfl rfl hc hs hdg)
theorem y_throw {Qc : Array Value → State → Outcome → State → Prop} {β : Type} {res : Except String β} {s' : zS} {mc ms ik ic : Nat} {cls : String} {names : List String} (hl : l.stackTraces = false) (hfit : Bundle.fit cls = true ∧ ∀ n ∈ names, Bundle.fit n = true) (hm : ∀ w ∈ Cond.classLink own ik cls :: Cond.initialized cls :: vx_at0 own ic cls names, w ∈ lw_tbl ∧ kOk w = true ∧ vx_ot w = true)
    (hno : ∀ x ∈ c.exceptionTable.toList, False) (hlk : meth.locks = false) (C : kC G p s m c cc nL own A) (hsz : ls.size = nL) (hP : va_P G.1 vwCl (zw G Z n a g L) H) (hD : va_D A (zw G Z n a g L)) (hS : va_S A s.heap H locs)
    (d0 : decode cc pc = .ok (.new ik, 3)) (d3 : decode cc (pc + 3) = .ok (.dup, 1)) (d4 : decode cc (pc + 4) = .ok (.invokespecial ic, 3)) (d7 : decode cc (pc + 7) = .ok (.athrow, 1))
    (hf : names.length + 3 < R.frames) (hl2 : (rest.map fun v => v.category).sum + (13 * (names.length + 1) + 42) ≤ R.locals) (hR : cells + 1 ≤ R.cells ∧ slots + 6 ≤ R.slots) (h : (some (.error cls, (g, L)) : Option (Except String β × zS)) = some (res, s')) (hc : cells + 1 ≤ mc) (hs : slots + 6 ≤ ms) :
    W p l e R s m args below meth c H locs cells slots (vx_MQ below Qc (kXC G (S := Unit) (fun E _ => res = .error E) (fun _ => zw G Z n a s'.1 s'.2) A) args s mc ms A) (F0 m pc ls rest) := by
  cases h; exact x_throw hl hfit hm hno hlk C hsz hP hD hS d0 d3 d4 d7 hf hl2 hR () rfl rfl hc hs
end YR
