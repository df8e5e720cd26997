theorem k_zero2 {x : Int32} (h0 : ¬ x < 0) (h1 : ¬ 0 < x) : x = 0 := by
  rw [Int32.lt_iff_toInt_lt] at h0 h1
  have e : (0 : Int32).toInt = 0 := by decide
  rw [e] at h0 h1
  exact Int32.toInt_inj.mp (by rw [e]; omega)
theorem dX12_feed_0 : decode cX12_feed 0 = .ok (.aload_n 0, 1) := by decide +kernel
theorem dX12_feed_1 : decode cX12_feed 1 = .ok (.iconst 0, 1) := by decide +kernel
theorem dX12_feed_2 : decode cX12_feed 2 = .ok (.putfield 177, 3) := by decide +kernel
theorem dX12_feed_5 : decode cX12_feed 5 = .ok (.aload_n 0, 1) := by decide +kernel
theorem dX12_feed_6 : decode cX12_feed 6 = .ok (.getfield 180, 3) := by decide +kernel
theorem dX12_feed_9 : decode cX12_feed 9 = .ok (.bipush 20, 2) := by decide +kernel
theorem dX12_feed_11 : decode cX12_feed 11 = .ok (.iadd, 1) := by decide +kernel
theorem dX12_feed_12 : decode cX12_feed 12 = .ok (.sipush 700, 3) := by decide +kernel
theorem dX12_feed_15 : decode cX12_feed 15 = .ok (.if_icmp .le 5, 3) := by decide +kernel
theorem dX12_feed_20 : decode cX12_feed 20 = .ok (.aload_n 0, 1) := by decide +kernel
theorem dX12_feed_21 : decode cX12_feed 21 = .ok (.iload_n 1, 1) := by decide +kernel
theorem tw_1696 : (Jvm.Cond.methodLink "MarshBellsModel" (183 : Nat) ({ cls := "MarshBellsModel", name := "lays", desc := "(I)V" } : Jvm.MethodName)) ∈ lw_tbl := tk_8 (List.mem_of_getElem? (i := 16) rfl)
theorem tw_1699 : (Jvm.Cond.code ({ cls := "MarshBellsModel", name := "lays", desc := "(I)V" } : Jvm.MethodName) prog_14_method_8_code (3 : Nat) (Option.none : Option Jvm.ClassFile.FieldType)) ∈ lw_tbl := tk_8 (List.mem_of_getElem? (i := 19) rfl)
theorem tw_1698 : (Jvm.Cond.instanceMethod ({ cls := "MarshBellsModel", name := "lays", desc := "(I)V" } : Jvm.MethodName)) ∈ lw_tbl := tk_8 (List.mem_of_getElem? (i := 18) rfl)
theorem se_X12_lays : Cond.selects RX12 yX12_lays yX12_lays ∈ lw_tbl := List.mem_append_left _ (List.mem_of_getElem? (i := 108) rfl)
theorem li_X12_183 : kLV RX12 183 RX12 yX12_lays cX12_lays 3 none 1 := ⟨tw_1696, tw_1698, se_X12_lays, tw_1699, tw_13, by decide +kernel⟩
theorem dX12_feed_22 : decode cX12_feed 22 = .ok (.invokevirtual 183, 3) := by decide +kernel
theorem dX12_feed_25 : decode cX12_feed 25 = .ok (.aload_n 0, 1) := by decide +kernel
theorem dX12_feed_26 : decode cX12_feed 26 = .ok (.iload_n 2, 1) := by decide +kernel
theorem dX12_feed_27 : decode cX12_feed 27 = .ok (.invokevirtual 183, 3) := by decide +kernel
theorem dX12_feed_30 : decode cX12_feed 30 = .ok (.aload_n 0, 1) := by decide +kernel
theorem dX12_feed_31 : decode cX12_feed 31 = .ok (.iload_n 3, 1) := by decide +kernel
theorem dX12_feed_32 : decode cX12_feed 32 = .ok (.invokevirtual 183, 3) := by decide +kernel
theorem dX12_feed_35 : decode cX12_feed 35 = .ok (.aload_n 0, 1) := by decide +kernel
theorem dX12_feed_36 : decode cX12_feed 36 = .ok (.iload 4, 2) := by decide +kernel
theorem dX12_feed_38 : decode cX12_feed 38 = .ok (.invokevirtual 183, 3) := by decide +kernel
theorem dX12_feed_41 : decode cX12_feed 41 = .ok (.aload_n 0, 1) := by decide +kernel
theorem dX12_feed_42 : decode cX12_feed 42 = .ok (.iload 5, 2) := by decide +kernel
theorem dX12_feed_44 : decode cX12_feed 44 = .ok (.invokevirtual 183, 3) := by decide +kernel
theorem dX12_feed_47 : decode cX12_feed 47 = .ok (.aload_n 0, 1) := by decide +kernel
theorem dX12_feed_48 : decode cX12_feed 48 = .ok (.getfield 180, 3) := by decide +kernel
theorem dX12_feed_51 : decode cX12_feed 51 = .ok (.ireturn, 1) := by decide +kernel
set_option maxHeartbeats 4000000 in
set_option maxRecDepth 100000 in
theorem c_X12_feed (l : Launch) (G : kG) (sz : Nat) (h0 : Nat) (n0 : Int32) (n1 : Int32) (n2 : Int32) (n3 : Int32) (n4 : Int32) (Fh0 : Nat → Value) (atp : Nat) (f0 : Nat → Int32) : kM l yX12_feed cX12_feed 6 (some .int) { frames := 7, cells := 0, slots := 0, locals := 132 } G [.ref h0, .int n0, .int n1, .int n2, .int n3, .int n4] [(h0, .inr (12, of12 (updV (updV Fh0 17 (.ref atp)) 18 (.int 0)))), (atp, .inl (G.2.1, 700, .inl f0))] sz (kQi G (S := Unit) (fun r (_ : Unit) => r = 20) (fun _ => [(h0, .inr (12, of12 (updV (updV (updV Fh0 0 (.int 0)) 17 (.ref atp)) 18 (.int 20)))), (atp, .inl (G.2.1, 700, .inl (upd (upd (upd (upd (upd (upd (upd (upd (upd (upd (upd (upd (upd (upd (upd (upd (upd (upd (upd (upd f0 0 ((n0 >>> (24 &&& 31)) &&& 255)) 1 ((n0 >>> (16 &&& 31)) &&& 255)) 2 ((n0 >>> (8 &&& 31)) &&& 255)) 3 ((n0 >>> (0 &&& 31)) &&& 255)) 4 ((n1 >>> (24 &&& 31)) &&& 255)) 5 ((n1 >>> (16 &&& 31)) &&& 255)) 6 ((n1 >>> (8 &&& 31)) &&& 255)) 7 ((n1 >>> (0 &&& 31)) &&& 255)) 8 ((n2 >>> (24 &&& 31)) &&& 255)) 9 ((n2 >>> (16 &&& 31)) &&& 255)) 10 ((n2 >>> (8 &&& 31)) &&& 255)) 11 ((n2 >>> (0 &&& 31)) &&& 255)) 12 ((n3 >>> (24 &&& 31)) &&& 255)) 13 ((n3 >>> (16 &&& 31)) &&& 255)) 14 ((n3 >>> (8 &&& 31)) &&& 255)) 15 ((n3 >>> (0 &&& 31)) &&& 255)) 16 ((n4 >>> (24 &&& 31)) &&& 255)) 17 ((n4 >>> (16 &&& 31)) &&& 255)) 18 ((n4 >>> (8 &&& 31)) &&& 255)) 19 ((n4 >>> (0 &&& 31)) &&& 255))))])) := by
  refine kM.of (by decide) (Nat.le_of_ble_eq_true rfl) ?_
  intro p e s m below meth c A ls H C hr hlk hnm hP hD hS hl
  have C : kC G p s m c cX12_feed 6 RX12 A := C
  have hx := C.1
  have hb := C.2.1
  have hl : lv_has ls 6 [(0, .ref h0), (1, .int n0), (2, .int n1), (3, .int n2), (4, .int n3), (5, .int n4)] := hl
  refine lv_aload_n hx hb dX12_feed_0 rfl (lv_at hl 0 rfl) ?_
  refine lv_iconst (v := 0) hx hb dX12_feed_1 (by decide) ?_
  refine k_put fl_X12_177 ft_X12_0 C hP hD hS 0 rfl (Nat.le_of_ble_eq_true rfl) rfl rfl dX12_feed_2 (fun H locs hP hD hS => ?_)
  have hP : va_P G.1 vwCl [(h0, .inr (12, of12 (updV (updV (updV Fh0 0 (.int 0)) 17 (.ref atp)) 18 (.int 0)))), (atp, .inl (G.2.1, 700, .inl f0))] H := hP
  have hD : va_D A [(h0, .inr (12, of12 (updV (updV (updV Fh0 0 (.int 0)) 17 (.ref atp)) 18 (.int 0)))), (atp, .inl (G.2.1, 700, .inl f0))] := hD
  refine lv_aload_n hx hb dX12_feed_5 rfl (lv_at hl 0 rfl) ?_
  refine k_get (v := .int 0) fl_X12_180 C hP 0 rfl rfl dX12_feed_6 ?_
  refine lv_bipush (v := 20) hx hb dX12_feed_9 (by decide) ?_
  refine lv_iadd hx hb dX12_feed_11 ?_
  refine k_eqi (y := 20) (by decide) ?_
  refine lv_sipush (v := 700) hx hb dX12_feed_12 (by decide) ?_
  refine lv_icmp_le (x := 20) (y := 700) (tgt := 20) hx hb dX12_feed_15 (by decide) (fun c_1 => ?_) (fun c_1 => ?_)
  rotate_left
  · exact absurd (by decide) c_1
  refine lv_aload_n hx hb dX12_feed_20 rfl (lv_at hl 0 rfl) ?_
  refine lv_iload_n hx hb dX12_feed_21 rfl (lv_at hl 1 rfl) ?_
  refine k_callVv (wr := []) (rest := []) li_X12_183 C (c_X12_lays_0 l G H.size h0 n0 ((updV (updV (updV Fh0 0 (.int 0)) 17 (.ref atp)) 18 (.int 0))) atp f0) (kR rfl) hP hD hS [0, 1] [] rfl rfl rfl rfl (by decide) 0 12 rfl rfl rfl hl.1 rfl (Nat.le_of_ble_eq_true rfl) dX12_feed_22 (fun uu4 H locs hw2 hP hD hS => ?_)
  have hP : va_P G.1 vwCl [(h0, .inr (12, of12 (updV (updV (updV Fh0 0 (.int 0)) 17 (.ref atp)) 18 (.int 4)))), (atp, .inl (G.2.1, 700, .inl (upd (upd (upd (upd f0 0 ((n0 >>> (24 &&& 31)) &&& 255)) 1 ((n0 >>> (16 &&& 31)) &&& 255)) 2 ((n0 >>> (8 &&& 31)) &&& 255)) 3 ((n0 >>> (0 &&& 31)) &&& 255))))] H := hP
  have hD : va_D A [(h0, .inr (12, of12 (updV (updV (updV Fh0 0 (.int 0)) 17 (.ref atp)) 18 (.int 4)))), (atp, .inl (G.2.1, 700, .inl (upd (upd (upd (upd f0 0 ((n0 >>> (24 &&& 31)) &&& 255)) 1 ((n0 >>> (16 &&& 31)) &&& 255)) 2 ((n0 >>> (8 &&& 31)) &&& 255)) 3 ((n0 >>> (0 &&& 31)) &&& 255))))] := hD
  refine lv_aload_n hx hb dX12_feed_25 rfl (lv_at hl 0 rfl) ?_
  refine lv_iload_n hx hb dX12_feed_26 rfl (lv_at hl 2 rfl) ?_
  refine k_callVv (wr := []) (rest := []) li_X12_183 C (c_X12_lays_4 l G H.size h0 n1 ((updV (updV (updV Fh0 0 (.int 0)) 17 (.ref atp)) 18 (.int 4))) atp (upd (upd (upd (upd f0 0 ((n0 >>> (24 &&& 31)) &&& 255)) 1 ((n0 >>> (16 &&& 31)) &&& 255)) 2 ((n0 >>> (8 &&& 31)) &&& 255)) 3 ((n0 >>> (0 &&& 31)) &&& 255))) (kR rfl) hP hD hS [0, 1] [] rfl rfl rfl rfl (by decide) 0 12 rfl rfl rfl hl.1 rfl (Nat.le_of_ble_eq_true rfl) dX12_feed_27 (fun uu7 H locs hw5 hP hD hS => ?_)
  have hP : va_P G.1 vwCl [(h0, .inr (12, of12 (updV (updV (updV Fh0 0 (.int 0)) 17 (.ref atp)) 18 (.int 8)))), (atp, .inl (G.2.1, 700, .inl (upd (upd (upd (upd (upd (upd (upd (upd f0 0 ((n0 >>> (24 &&& 31)) &&& 255)) 1 ((n0 >>> (16 &&& 31)) &&& 255)) 2 ((n0 >>> (8 &&& 31)) &&& 255)) 3 ((n0 >>> (0 &&& 31)) &&& 255)) 4 ((n1 >>> (24 &&& 31)) &&& 255)) 5 ((n1 >>> (16 &&& 31)) &&& 255)) 6 ((n1 >>> (8 &&& 31)) &&& 255)) 7 ((n1 >>> (0 &&& 31)) &&& 255))))] H := hP
  have hD : va_D A [(h0, .inr (12, of12 (updV (updV (updV Fh0 0 (.int 0)) 17 (.ref atp)) 18 (.int 8)))), (atp, .inl (G.2.1, 700, .inl (upd (upd (upd (upd (upd (upd (upd (upd f0 0 ((n0 >>> (24 &&& 31)) &&& 255)) 1 ((n0 >>> (16 &&& 31)) &&& 255)) 2 ((n0 >>> (8 &&& 31)) &&& 255)) 3 ((n0 >>> (0 &&& 31)) &&& 255)) 4 ((n1 >>> (24 &&& 31)) &&& 255)) 5 ((n1 >>> (16 &&& 31)) &&& 255)) 6 ((n1 >>> (8 &&& 31)) &&& 255)) 7 ((n1 >>> (0 &&& 31)) &&& 255))))] := hD
  refine lv_aload_n hx hb dX12_feed_30 rfl (lv_at hl 0 rfl) ?_
  refine lv_iload_n hx hb dX12_feed_31 rfl (lv_at hl 3 rfl) ?_
  refine k_callVv (wr := []) (rest := []) li_X12_183 C (c_X12_lays_8 l G H.size h0 n2 ((updV (updV (updV Fh0 0 (.int 0)) 17 (.ref atp)) 18 (.int 8))) atp (upd (upd (upd (upd (upd (upd (upd (upd f0 0 ((n0 >>> (24 &&& 31)) &&& 255)) 1 ((n0 >>> (16 &&& 31)) &&& 255)) 2 ((n0 >>> (8 &&& 31)) &&& 255)) 3 ((n0 >>> (0 &&& 31)) &&& 255)) 4 ((n1 >>> (24 &&& 31)) &&& 255)) 5 ((n1 >>> (16 &&& 31)) &&& 255)) 6 ((n1 >>> (8 &&& 31)) &&& 255)) 7 ((n1 >>> (0 &&& 31)) &&& 255))) (kR rfl) hP hD hS [0, 1] [] rfl rfl rfl rfl (by decide) 0 12 rfl rfl rfl hl.1 rfl (Nat.le_of_ble_eq_true rfl) dX12_feed_32 (fun uu10 H locs hw8 hP hD hS => ?_)
  have hP : va_P G.1 vwCl [(h0, .inr (12, of12 (updV (updV (updV Fh0 0 (.int 0)) 17 (.ref atp)) 18 (.int 12)))), (atp, .inl (G.2.1, 700, .inl (upd (upd (upd (upd (upd (upd (upd (upd (upd (upd (upd (upd f0 0 ((n0 >>> (24 &&& 31)) &&& 255)) 1 ((n0 >>> (16 &&& 31)) &&& 255)) 2 ((n0 >>> (8 &&& 31)) &&& 255)) 3 ((n0 >>> (0 &&& 31)) &&& 255)) 4 ((n1 >>> (24 &&& 31)) &&& 255)) 5 ((n1 >>> (16 &&& 31)) &&& 255)) 6 ((n1 >>> (8 &&& 31)) &&& 255)) 7 ((n1 >>> (0 &&& 31)) &&& 255)) 8 ((n2 >>> (24 &&& 31)) &&& 255)) 9 ((n2 >>> (16 &&& 31)) &&& 255)) 10 ((n2 >>> (8 &&& 31)) &&& 255)) 11 ((n2 >>> (0 &&& 31)) &&& 255))))] H := hP
  have hD : va_D A [(h0, .inr (12, of12 (updV (updV (updV Fh0 0 (.int 0)) 17 (.ref atp)) 18 (.int 12)))), (atp, .inl (G.2.1, 700, .inl (upd (upd (upd (upd (upd (upd (upd (upd (upd (upd (upd (upd f0 0 ((n0 >>> (24 &&& 31)) &&& 255)) 1 ((n0 >>> (16 &&& 31)) &&& 255)) 2 ((n0 >>> (8 &&& 31)) &&& 255)) 3 ((n0 >>> (0 &&& 31)) &&& 255)) 4 ((n1 >>> (24 &&& 31)) &&& 255)) 5 ((n1 >>> (16 &&& 31)) &&& 255)) 6 ((n1 >>> (8 &&& 31)) &&& 255)) 7 ((n1 >>> (0 &&& 31)) &&& 255)) 8 ((n2 >>> (24 &&& 31)) &&& 255)) 9 ((n2 >>> (16 &&& 31)) &&& 255)) 10 ((n2 >>> (8 &&& 31)) &&& 255)) 11 ((n2 >>> (0 &&& 31)) &&& 255))))] := hD
  refine lv_aload_n hx hb dX12_feed_35 rfl (lv_at hl 0 rfl) ?_
  refine lv_iload hx hb dX12_feed_36 (lv_at hl 4 rfl) ?_
  refine k_callVv (wr := []) (rest := []) li_X12_183 C (c_X12_lays_12 l G H.size h0 n3 ((updV (updV (updV Fh0 0 (.int 0)) 17 (.ref atp)) 18 (.int 12))) atp (upd (upd (upd (upd (upd (upd (upd (upd (upd (upd (upd (upd f0 0 ((n0 >>> (24 &&& 31)) &&& 255)) 1 ((n0 >>> (16 &&& 31)) &&& 255)) 2 ((n0 >>> (8 &&& 31)) &&& 255)) 3 ((n0 >>> (0 &&& 31)) &&& 255)) 4 ((n1 >>> (24 &&& 31)) &&& 255)) 5 ((n1 >>> (16 &&& 31)) &&& 255)) 6 ((n1 >>> (8 &&& 31)) &&& 255)) 7 ((n1 >>> (0 &&& 31)) &&& 255)) 8 ((n2 >>> (24 &&& 31)) &&& 255)) 9 ((n2 >>> (16 &&& 31)) &&& 255)) 10 ((n2 >>> (8 &&& 31)) &&& 255)) 11 ((n2 >>> (0 &&& 31)) &&& 255))) (kR rfl) hP hD hS [0, 1] [] rfl rfl rfl rfl (by decide) 0 12 rfl rfl rfl hl.1 rfl (Nat.le_of_ble_eq_true rfl) dX12_feed_38 (fun uu13 H locs hw11 hP hD hS => ?_)
  have hP : va_P G.1 vwCl [(h0, .inr (12, of12 (updV (updV (updV Fh0 0 (.int 0)) 17 (.ref atp)) 18 (.int 16)))), (atp, .inl (G.2.1, 700, .inl (upd (upd (upd (upd (upd (upd (upd (upd (upd (upd (upd (upd (upd (upd (upd (upd f0 0 ((n0 >>> (24 &&& 31)) &&& 255)) 1 ((n0 >>> (16 &&& 31)) &&& 255)) 2 ((n0 >>> (8 &&& 31)) &&& 255)) 3 ((n0 >>> (0 &&& 31)) &&& 255)) 4 ((n1 >>> (24 &&& 31)) &&& 255)) 5 ((n1 >>> (16 &&& 31)) &&& 255)) 6 ((n1 >>> (8 &&& 31)) &&& 255)) 7 ((n1 >>> (0 &&& 31)) &&& 255)) 8 ((n2 >>> (24 &&& 31)) &&& 255)) 9 ((n2 >>> (16 &&& 31)) &&& 255)) 10 ((n2 >>> (8 &&& 31)) &&& 255)) 11 ((n2 >>> (0 &&& 31)) &&& 255)) 12 ((n3 >>> (24 &&& 31)) &&& 255)) 13 ((n3 >>> (16 &&& 31)) &&& 255)) 14 ((n3 >>> (8 &&& 31)) &&& 255)) 15 ((n3 >>> (0 &&& 31)) &&& 255))))] H := hP
  have hD : va_D A [(h0, .inr (12, of12 (updV (updV (updV Fh0 0 (.int 0)) 17 (.ref atp)) 18 (.int 16)))), (atp, .inl (G.2.1, 700, .inl (upd (upd (upd (upd (upd (upd (upd (upd (upd (upd (upd (upd (upd (upd (upd (upd f0 0 ((n0 >>> (24 &&& 31)) &&& 255)) 1 ((n0 >>> (16 &&& 31)) &&& 255)) 2 ((n0 >>> (8 &&& 31)) &&& 255)) 3 ((n0 >>> (0 &&& 31)) &&& 255)) 4 ((n1 >>> (24 &&& 31)) &&& 255)) 5 ((n1 >>> (16 &&& 31)) &&& 255)) 6 ((n1 >>> (8 &&& 31)) &&& 255)) 7 ((n1 >>> (0 &&& 31)) &&& 255)) 8 ((n2 >>> (24 &&& 31)) &&& 255)) 9 ((n2 >>> (16 &&& 31)) &&& 255)) 10 ((n2 >>> (8 &&& 31)) &&& 255)) 11 ((n2 >>> (0 &&& 31)) &&& 255)) 12 ((n3 >>> (24 &&& 31)) &&& 255)) 13 ((n3 >>> (16 &&& 31)) &&& 255)) 14 ((n3 >>> (8 &&& 31)) &&& 255)) 15 ((n3 >>> (0 &&& 31)) &&& 255))))] := hD
  refine lv_aload_n hx hb dX12_feed_41 rfl (lv_at hl 0 rfl) ?_
  refine lv_iload hx hb dX12_feed_42 (lv_at hl 5 rfl) ?_
  refine k_callVv (wr := []) (rest := []) li_X12_183 C (c_X12_lays_16 l G H.size h0 n4 ((updV (updV (updV Fh0 0 (.int 0)) 17 (.ref atp)) 18 (.int 16))) atp (upd (upd (upd (upd (upd (upd (upd (upd (upd (upd (upd (upd (upd (upd (upd (upd f0 0 ((n0 >>> (24 &&& 31)) &&& 255)) 1 ((n0 >>> (16 &&& 31)) &&& 255)) 2 ((n0 >>> (8 &&& 31)) &&& 255)) 3 ((n0 >>> (0 &&& 31)) &&& 255)) 4 ((n1 >>> (24 &&& 31)) &&& 255)) 5 ((n1 >>> (16 &&& 31)) &&& 255)) 6 ((n1 >>> (8 &&& 31)) &&& 255)) 7 ((n1 >>> (0 &&& 31)) &&& 255)) 8 ((n2 >>> (24 &&& 31)) &&& 255)) 9 ((n2 >>> (16 &&& 31)) &&& 255)) 10 ((n2 >>> (8 &&& 31)) &&& 255)) 11 ((n2 >>> (0 &&& 31)) &&& 255)) 12 ((n3 >>> (24 &&& 31)) &&& 255)) 13 ((n3 >>> (16 &&& 31)) &&& 255)) 14 ((n3 >>> (8 &&& 31)) &&& 255)) 15 ((n3 >>> (0 &&& 31)) &&& 255))) (kR rfl) hP hD hS [0, 1] [] rfl rfl rfl rfl (by decide) 0 12 rfl rfl rfl hl.1 rfl (Nat.le_of_ble_eq_true rfl) dX12_feed_44 (fun uu16 H locs hw14 hP hD hS => ?_)
  have hP : va_P G.1 vwCl [(h0, .inr (12, of12 (updV (updV (updV Fh0 0 (.int 0)) 17 (.ref atp)) 18 (.int 20)))), (atp, .inl (G.2.1, 700, .inl (upd (upd (upd (upd (upd (upd (upd (upd (upd (upd (upd (upd (upd (upd (upd (upd (upd (upd (upd (upd f0 0 ((n0 >>> (24 &&& 31)) &&& 255)) 1 ((n0 >>> (16 &&& 31)) &&& 255)) 2 ((n0 >>> (8 &&& 31)) &&& 255)) 3 ((n0 >>> (0 &&& 31)) &&& 255)) 4 ((n1 >>> (24 &&& 31)) &&& 255)) 5 ((n1 >>> (16 &&& 31)) &&& 255)) 6 ((n1 >>> (8 &&& 31)) &&& 255)) 7 ((n1 >>> (0 &&& 31)) &&& 255)) 8 ((n2 >>> (24 &&& 31)) &&& 255)) 9 ((n2 >>> (16 &&& 31)) &&& 255)) 10 ((n2 >>> (8 &&& 31)) &&& 255)) 11 ((n2 >>> (0 &&& 31)) &&& 255)) 12 ((n3 >>> (24 &&& 31)) &&& 255)) 13 ((n3 >>> (16 &&& 31)) &&& 255)) 14 ((n3 >>> (8 &&& 31)) &&& 255)) 15 ((n3 >>> (0 &&& 31)) &&& 255)) 16 ((n4 >>> (24 &&& 31)) &&& 255)) 17 ((n4 >>> (16 &&& 31)) &&& 255)) 18 ((n4 >>> (8 &&& 31)) &&& 255)) 19 ((n4 >>> (0 &&& 31)) &&& 255))))] H := hP
  have hD : va_D A [(h0, .inr (12, of12 (updV (updV (updV Fh0 0 (.int 0)) 17 (.ref atp)) 18 (.int 20)))), (atp, .inl (G.2.1, 700, .inl (upd (upd (upd (upd (upd (upd (upd (upd (upd (upd (upd (upd (upd (upd (upd (upd (upd (upd (upd (upd f0 0 ((n0 >>> (24 &&& 31)) &&& 255)) 1 ((n0 >>> (16 &&& 31)) &&& 255)) 2 ((n0 >>> (8 &&& 31)) &&& 255)) 3 ((n0 >>> (0 &&& 31)) &&& 255)) 4 ((n1 >>> (24 &&& 31)) &&& 255)) 5 ((n1 >>> (16 &&& 31)) &&& 255)) 6 ((n1 >>> (8 &&& 31)) &&& 255)) 7 ((n1 >>> (0 &&& 31)) &&& 255)) 8 ((n2 >>> (24 &&& 31)) &&& 255)) 9 ((n2 >>> (16 &&& 31)) &&& 255)) 10 ((n2 >>> (8 &&& 31)) &&& 255)) 11 ((n2 >>> (0 &&& 31)) &&& 255)) 12 ((n3 >>> (24 &&& 31)) &&& 255)) 13 ((n3 >>> (16 &&& 31)) &&& 255)) 14 ((n3 >>> (8 &&& 31)) &&& 255)) 15 ((n3 >>> (0 &&& 31)) &&& 255)) 16 ((n4 >>> (24 &&& 31)) &&& 255)) 17 ((n4 >>> (16 &&& 31)) &&& 255)) 18 ((n4 >>> (8 &&& 31)) &&& 255)) 19 ((n4 >>> (0 &&& 31)) &&& 255))))] := hD
  refine lv_aload_n hx hb dX12_feed_47 rfl (lv_at hl 0 rfl) ?_
  refine k_get (v := .int 20) fl_X12_180 C hP 0 rfl rfl dX12_feed_48 ?_
  exact k_iret C hr hlk hP hD hS () (rfl) [0, 1] rfl rfl (Nat.le_of_ble_eq_true rfl) (Nat.le_of_ble_eq_true rfl) dX12_feed_51
