theorem tw_28 : (Jvm.Cond.methodLink "MarshBellsLaw" (103 : Nat) ({ cls := "MarshBells", name := "<init>", desc := "()V" } : Jvm.MethodName)) ∈ lw_tbl := tk_1 (List.mem_of_getElem? (i := 28) rfl)
theorem tw_30 : (Jvm.Cond.code ({ cls := "MarshBells", name := "<init>", desc := "()V" } : Jvm.MethodName) prog_1_method_1_code (1 : Nat) (Option.none : Option Jvm.ClassFile.FieldType)) ∈ lw_tbl := tk_1 (List.mem_of_getElem? (i := 30) rfl)
theorem tw_29 : (Jvm.Cond.instanceMethod ({ cls := "MarshBells", name := "<init>", desc := "()V" } : Jvm.MethodName)) ∈ lw_tbl := tk_1 (List.mem_of_getElem? (i := 29) rfl)
theorem li_L_103 : kLI RL 103 yX11_init cX11_init 1 0 := ⟨tw_28, tw_29, tw_30, tw_1, rfl, by decide +kernel⟩
theorem tw_1419 : (Jvm.Cond.methodLink "MarshBellsLaw" (106 : Nat) ({ cls := "MarshBellsModel", name := "<init>", desc := "()V" } : Jvm.MethodName)) ∈ lw_tbl := tk_6 (List.mem_of_getElem? (i := 219) rfl)
theorem tw_1421 : (Jvm.Cond.code ({ cls := "MarshBellsModel", name := "<init>", desc := "()V" } : Jvm.MethodName) prog_14_method_1_code (1 : Nat) (Option.none : Option Jvm.ClassFile.FieldType)) ∈ lw_tbl := tk_6 (List.mem_of_getElem? (i := 221) rfl)
theorem tw_1420 : (Jvm.Cond.instanceMethod ({ cls := "MarshBellsModel", name := "<init>", desc := "()V" } : Jvm.MethodName)) ∈ lw_tbl := tk_6 (List.mem_of_getElem? (i := 220) rfl)
theorem li_L_106 : kLI RL 106 yX12_init cX12_init 1 0 := ⟨tw_1419, tw_1420, tw_1421, tw_13, rfl, by decide +kernel⟩
theorem tw_26 : (Jvm.Cond.classLink "MarshBellsLaw" (8 : Nat) "MarshBells") ∈ lw_tbl := tk_1 (List.mem_of_getElem? (i := 26) rfl)
theorem dL_law_0 : decode cL_law 0 = .ok (.new 8, 3) := by decide +kernel
theorem dL_law_3 : decode cL_law 3 = .ok (.dup, 1) := by decide +kernel
theorem dL_law_4 : decode cL_law 4 = .ok (.invokespecial 103, 3) := by decide +kernel
theorem dL_law_7 : decode cL_law 7 = .ok (.astore_n 1, 1) := by decide +kernel
theorem tw_1417 : (Jvm.Cond.classLink "MarshBellsLaw" (104 : Nat) "MarshBellsModel") ∈ lw_tbl := tk_6 (List.mem_of_getElem? (i := 217) rfl)
theorem dL_law_8 : decode cL_law 8 = .ok (.new 104, 3) := by decide +kernel
theorem dL_law_11 : decode cL_law 11 = .ok (.dup, 1) := by decide +kernel
theorem dL_law_12 : decode cL_law 12 = .ok (.invokespecial 106, 3) := by decide +kernel
theorem dL_law_15 : decode cL_law 15 = .ok (.astore_n 2, 1) := by decide +kernel
theorem dL_law_16 : decode cL_law 16 = .ok (.iconst 1, 1) := by decide +kernel
theorem dL_law_17 : decode cL_law 17 = .ok (.newarray .long, 2) := by decide +kernel
theorem dL_law_19 : decode cL_law 19 = .ok (.astore_n 3, 1) := by decide +kernel
theorem dL_law_20 : decode cL_law 20 = .ok (.iconst 0, 1) := by decide +kernel
theorem dL_law_21 : decode cL_law 21 = .ok (.istore 4, 2) := by decide +kernel
theorem zI_X0 : zI XT gX0 := by
  intro k j lo hi e
  have h0 : gX0 k j = 0 ∨ XT k j = none := by
    unfold gX0
    split <;> first | (dsimp only; split <;> first | exact Or.inl rfl | exact Or.inr rfl) | exact Or.inl rfl
  rcases h0 with h0 | h0
  · rw [h0]
    show lo ≤ 0 ∧ 0 ≤ hi
    unfold XT at e
    split at e
    · split at e <;> first | (cases e; decide) | (split at e <;> first | (cases e; decide) | (cases e; done)) | (cases e; done)
    · split at e
      · split at e <;> first | (cases e; decide) | (cases e; done)
      · cases e; decide
  · rw [h0] at e; exact nomatch e
theorem zI_M0 : zI MT gM0 := by
  intro k j lo hi e
  unfold MT at e
  split at e <;> first | (cases e; change _ ≤ (0 : Int32).toInt ∧ (0 : Int32).toInt ≤ _; decide) | (split at e <;> first | (cases e; decide) | (cases e; done)) | (cases e; done)
theorem mJ_M0 : mJ gM0 := by
  refine ⟨fun i hi => absurd hi ?_, by decide, fun i hi => absurd hi ?_, fun i hi => absurd hi ?_, fun i hi => absurd hi ?_, fun h => absurd rfl h⟩
  all_goals (show ¬ (i : Int) < 0; omega)

theorem CP_0 : CP gX0 gM0 := ⟨zI_X0, zI_M0, mJ_M0, ⟨rfl, fun j hj => absurd hj (by show ¬ (j : Int) < 0; omega)⟩, rfl, rfl, ⟨rfl, rfl, rfl, rfl, fun h => absurd rfl h⟩, rfl, rfl⟩
theorem CD_0 : CD gX0 gM0 := by
  have no : ∀ k : Nat, ¬ ((k : Int) < (0 : Int32).toInt) := fun k h => absurd (show (k : Int) < 0 from h) (by omega)
  refine ⟨⟨fun i hi => absurd hi (no i), rfl, rfl, fun _ => [], fun _ => 0, fun _ => 0, fun r hr => ?_, fun r hr => absurd hr (Nat.not_lt_zero _)⟩, ⟨fun i hi => absurd hi (no i), rfl, fun i hi => absurd hi (no i), fun i hi => absurd hi (no i)⟩, fun h => absurd rfl h, fun j _ => rfl, rfl, rfl, rfl, rfl⟩
  obtain rfl : r = 0 := Nat.le_zero.mp hr
  rfl
theorem CQ_0 : CQ gX0 gM0 := ⟨CP_0, CD_0⟩
theorem WI_0 : WI gM0 := by
  have no : ∀ k : Nat, ¬ ((k : Int) < (0 : Int32).toInt) := fun k h => absurd (show (k : Int) < 0 from h) (by omega)
  exact ⟨fun i hi => absurd hi (Nat.not_lt_zero _), ⟨fun i hi => absurd hi (no i), fun k hk => absurd hk (no k)⟩, fun h => absurd rfl h⟩
theorem CR_0 : CR gX0 gM0 := ⟨CQ_0, WI_0⟩
theorem VI_0 : VI gM0 := by
  have no : ∀ k : Nat, ¬ ((k : Int) < (0 : Int32).toInt) := fun k h => absurd (show (k : Int) < 0 from h) (by omega)
  exact ⟨⟨fun i hi => absurd hi (no i), (by show (0 : Int) ≤ (1 : Int32).toInt; decide), (by show (1 : Int32).toInt ≤ 9; decide)⟩, ⟨fun i hi => absurd hi (no i), fun k hk => absurd hk (no k), fun k hk => absurd hk (no k)⟩, fun h => absurd rfl h⟩
theorem CS_0 : CS gX0 gM0 := ⟨CR_0, VI_0⟩
set_option maxHeartbeats 4000000 in
set_option maxRecDepth 100000 in
theorem law_start {p : Program} {e : Env} {s : State} {m : MethodId} {below : List Frame} {meth : Method} {c : Code} (l : Launch) (hst : l.stackTraces = false) {b L : Nat} {xs : Nat → Int32} (hL : L ≤ 3072) (C0 : lw_At p s m meth c b L xs) : W p l e room_1 s m #[Value.ref b] below meth c s.heap [] 0 0 (lw_Z below #[Value.ref b] s) (entryFrame m ([Value.ref b] : List Value).toArray 8) := by
  obtain ⟨G, C⟩ := law_env C0
  obtain ⟨hx, hb, hr, -, -, -, hX, hbl, hlocks, -⟩ := id C0
  obtain ⟨A, hA⟩ : ∃ A : Nat → Prop, A = fun q : Nat => s.heap.size ≤ q := ⟨_, rfl⟩
  rw [← hA] at C
  have hP : va_P G.1 vwCl [] s.heap := fun k q h => by simp at h
  have hD : va_D A [] := ⟨fun i j p q h => by simp at h, fun k q h => by simp at h⟩
  have hS : va_S A s.heap s.heap [] := va_S.rf
  have hl := lv_entry ([.ref b]) (n := 8) (Nat.le_of_ble_eq_true rfl)
  rw [lg_entry_eq]
  generalize (lg_sl ([.ref b]) ++ List.replicate (8 - (lg_sl ([.ref b])).length) Slot.unset).toArray = ls at hl ⊢
  have hl : lv_has ls 8 [(0, .ref b)] := hl
  refine k_new (ci := 11) (F := zF11) tyX11 inWX11 tyX11_ok ⟨tw_26, tw_27, tw_1⟩ rfl zV11 C hP hD hS (Nat.le_of_ble_eq_true rfl) (Nat.le_of_ble_eq_true rfl) dL_law_0 (fun qx H hP hD hS => ?_)
  have hP : va_P G.1 vwCl [(qx, .inr (11, ofL 17 zF11))] H := hP
  have hD : va_D A [(qx, .inr (11, ofL 17 zF11))] := hD
  refine lv_dup hx hb dL_law_3 rfl ?_
  refine k_callIv (wr := []) (rest := [.ref qx]) li_L_103 C (c_X11_init l G H.size qx zF11) (kR rfl) hP hD hS [0] [] rfl rfl rfl rfl (by decide) rfl hl.1 rfl (Nat.le_of_ble_eq_true rfl) dL_law_4 (fun ux H locs hw2 hP hD hS => ?_)
  clear hw2
  replace hP : va_P G.1 vwCl (wX0 G qx ux ++ []) H := by rw [List.append_nil]; exact hP
  replace hD : va_D A (wX0 G qx ux ++ []) := by rw [List.append_nil]; exact hD
  replace hP := (cX_conv G qx ux H A []).1 hP
  replace hD := (cX_conv G qx ux H A []).2 hD
  rw [List.append_nil] at hP hD
  obtain ⟨a, ha⟩ : ∃ a, a = aX0 qx ux := ⟨_, rfl⟩
  have hax : qx = a 0 := by rw [ha]; rfl
  rw [← ha] at hP hD
  clear ha
  refine lv_astore_n (lv' := [(1, .ref qx), (0, .ref b)]) hx hb dL_law_7 rfl hl (by decide) rfl (fun ls hl => ?_)
  refine k_new (ci := 12) (F := zF12) tyX12 inWX12 tyX12_ok ⟨tw_1417, tw_1418, tw_13⟩ rfl zV12 C hP hD hS (Nat.le_of_ble_eq_true rfl) (Nat.le_of_ble_eq_true rfl) dL_law_8 (fun qm H hP hD hS => ?_)
  replace hP := swp_P hP
  replace hD := swp_D hD
  refine lv_dup hx hb dL_law_11 rfl ?_
  refine a_callIv (wc := [(qm, .inr (12, ofL 88 zF12))]) (wr := zw G (XS 2) 105 a gX0 (fun _ _ => 0)) (rest := [.ref qm]) li_L_106 C (c_X12_init l G H.size qm zF12) (kR rfl) hP hD hS rfl hl.1 rfl (Nat.le_of_ble_eq_true rfl) dL_law_12 (fun um H locs hw2 hP hD hS => ?_)
  clear hw2
  replace hP : va_P G.1 vwCl (wM0 G qm um ++ zw G (XS 2) 105 a gX0 (fun _ _ => 0)) H := hP
  replace hD : va_D A (wM0 G qm um ++ zw G (XS 2) 105 a gX0 (fun _ _ => 0)) := hD
  replace hP := (cM_conv G qm um H A _).1 hP
  replace hD := (cM_conv G qm um H A _).2 hD
  obtain ⟨am, ha⟩ : ∃ a, a = aM0 qm um := ⟨_, rfl⟩
  have ham : qm = am 0 := by rw [ha]; rfl
  rw [← ha] at hP hD
  clear ha
  refine lv_astore_n (lv' := [(2, .ref qm), (1, .ref qx), (0, .ref b)]) hx hb dL_law_15 rfl hl (by decide) rfl (fun ls hl => ?_)
  refine lv_iconst (v := 1) hx hb dL_law_16 (by decide) ?_
  refine k_newJ (N' := 1) tw_2091 C hP hD hS (by decide) (by decide) (by decide) (Nat.le_of_ble_eq_true rfl) (Nat.le_of_ble_eq_true rfl) dL_law_17 (fun qo H hP hD hS => ?_)
  rw [List.append_assoc] at hP hD
  refine lv_astore_n (lv' := [(3, .ref qo), (2, .ref qm), (1, .ref qx), (0, .ref b)]) hx hb dL_law_19 rfl hl (by decide) rfl (fun ls hl => ?_)
  refine lv_iconst (v := 0) hx hb dL_law_20 (by decide) ?_
  refine lv_istore (lv' := [(4, .int 0), (3, .ref qo), (2, .ref qm), (1, .ref qx), (0, .ref b)]) hx hb dL_law_21 hl (by decide) rfl (fun ls hl => ?_)
  refine W.widen (k := 1000) (n := 20000) (Nat.le_of_ble_eq_true rfl) (Nat.le_of_ble_eq_true rfl) ?_
  rw [hax, ham] at hl
  exact law_loop hst hL C0 hA C (fu := 1180591620717411303424) (Nat.le_refl _) 3072 0 0 2 a gX0 gM0 (fun _ _ => 0) (fun _ _ => 0) (fun _ => 0) 1000 20000 H _ ls (by omega) (Nat.zero_le _) (by decide) (by decide) (by decide) CS_0 hP hD hS (lv_sub hl [4, 3, 2, 1, 0] rfl)
