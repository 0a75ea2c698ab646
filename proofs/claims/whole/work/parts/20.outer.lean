theorem d_F_begin_0 : decode prog_1_method_2_code 0 = .ok (.aload_n 0, 1) := by decide +kernel
theorem d_F_begin_1 : decode prog_1_method_2_code 1 = .ok (.getfield 12, 3) := by decide +kernel
theorem d_F_begin_4 : decode prog_1_method_2_code 4 = .ok (.invokevirtual 47, 3) := by decide +kernel
theorem d_F_begin_7 : decode prog_1_method_2_code 7 = .ok (.ireturn, 1) := by decide +kernel
set_option maxRecDepth 20000 in
set_option maxHeartbeats 4000000 in
theorem cX_beginF (E : fk_E) (x0 : Nat) (a0 : Nat) (n0 : Nat) (m0 : Nat) (i0 : Nat) (r0 : Nat) (p0 : Nat) (a1 : Nat) (a2 : Nat) (a3 : Nat) (tr : Nat) (len : Nat → Nat) (ht : tr = 20) : fk_C E fy_F_begin prog_1_method_2_code 1 (some .int) 2 0 0 [.ref x0] [(x0, .inr (0, [.ref a0, .ref n0, .ref m0, .ref i0, .ref r0, .ref p0])), (a0, .inr (1, [.ref a1, .ref a2, .ref a3, .int (nI tr)])), fk_ai E a1 20 len] (S := Unit) (fun _ => some (.int (-2))) (fun _ => True) (fun _ => [(x0, .inr (0, [.ref a0, .ref n0, .ref m0, .ref i0, .ref r0, .ref p0])), (a0, .inr (1, [.ref a1, .ref a2, .ref a3, .int (nI tr)])), fk_ai E a1 20 len]) := by
  refine fk_enterI (v := fun _ => (-2)) (by decide) (Nat.le_of_ble_eq_true rfl) (lv0 := [(0, .ref x0)]) rfl ?_
  intro K hini hret
  refine fk_aload_n 0 d_F_begin_0 rfl ?_
  refine fk_get 0 0 rfl rfl fh_F (Nat.le_of_ble_eq_true rfl) fw_134 rfl d_F_begin_1 ?_
  refine fk_callV (q0 := 1) (As := []) (rest := []) (is := [1, 2]) (ir := [0]) (ip := [0, 1, 2]) (wc := [(a0, .inr (1, [.ref a1, .ref a2, .ref a3, .int (nI tr)])), fk_ai E a1 20 len]) (wr := [(x0, .inr (0, [.ref a0, .ref n0, .ref m0, .ref i0, .ref r0, .ref p0]))]) (w2 := fun _ => [(x0, .inr (0, [.ref a0, .ref n0, .ref m0, .ref i0, .ref r0, .ref p0])), (a0, .inr (1, [.ref a1, .ref a2, .ref a3, .int (nI tr)])), fk_ai E a1 20 len]) (cL_addTraceF E a0 a1 a2 a3 tr len (by first | omega | assumption)) d_F_begin_4 fz_Lg_addTrace fw_157 rfl rfl fw_158 fw_159 ⟨Nat.le_of_ble_eq_true rfl, Nat.le_of_ble_eq_true rfl⟩ rfl (Nat.le_of_ble_eq_true rfl) ⟨Nat.zero_le _, Nat.zero_le _⟩ ⟨rfl, rfl, rfl, rfl, by decide, fun _ => rfl, rfl⟩ (fun u hu4 => ?_)
  show fk_V E _ K (0, 0) [(x0, .inr (0, [.ref a0, .ref n0, .ref m0, .ref i0, .ref r0, .ref p0])), (a0, .inr (1, [.ref a1, .ref a2, .ref a3, .int (nI tr)])), fk_ai E a1 20 len] 7 [(0, .ref x0)] [.int (-2)]
  exact hret (0, 0) _ 7 _ () d_F_begin_7 (trivial) (rfl)
set_option maxRecDepth 20000 in
set_option maxHeartbeats 4000000 in
theorem cX_begin (E : fk_E) (x0 : Nat) (a0 : Nat) (n0 : Nat) (m0 : Nat) (i0 : Nat) (r0 : Nat) (p0 : Nat) (a1 : Nat) (a2 : Nat) (a3 : Nat) (tr : Nat) (len : Nat → Nat) (ht : tr < 20) : fk_C E fy_F_begin prog_1_method_2_code 1 (some .int) 2 0 0 [.ref x0] [(x0, .inr (0, [.ref a0, .ref n0, .ref m0, .ref i0, .ref r0, .ref p0])), (a0, .inr (1, [.ref a1, .ref a2, .ref a3, .int (nI tr)])), fk_ai E a1 20 len] (S := Unit) (fun _ => some (.int (nI tr))) (fun _ => True) (fun _ => [(x0, .inr (0, [.ref a0, .ref n0, .ref m0, .ref i0, .ref r0, .ref p0])), (a0, .inr (1, [.ref a1, .ref a2, .ref a3, .int (nI (tr + 1))])), fk_ai E a1 20 (va_up len tr 0)]) := by
  refine fk_enterI (v := fun _ => (nI tr)) (by decide) (Nat.le_of_ble_eq_true rfl) (lv0 := [(0, .ref x0)]) rfl ?_
  intro K hini hret
  refine fk_aload_n 0 d_F_begin_0 rfl ?_
  refine fk_get 0 0 rfl rfl fh_F (Nat.le_of_ble_eq_true rfl) fw_134 rfl d_F_begin_1 ?_
  refine fk_callV (q0 := 1) (As := []) (rest := []) (is := [1, 2]) (ir := [0]) (ip := [0, 1, 2]) (wc := [(a0, .inr (1, [.ref a1, .ref a2, .ref a3, .int (nI tr)])), fk_ai E a1 20 len]) (wr := [(x0, .inr (0, [.ref a0, .ref n0, .ref m0, .ref i0, .ref r0, .ref p0]))]) (w2 := fun _ => [(x0, .inr (0, [.ref a0, .ref n0, .ref m0, .ref i0, .ref r0, .ref p0])), (a0, .inr (1, [.ref a1, .ref a2, .ref a3, .int (nI (tr + 1))])), fk_ai E a1 20 (va_up len tr 0)]) (cL_addTrace E a0 a1 a2 a3 tr len (by first | omega | assumption)) d_F_begin_4 fz_Lg_addTrace fw_157 rfl rfl fw_158 fw_159 ⟨Nat.le_of_ble_eq_true rfl, Nat.le_of_ble_eq_true rfl⟩ rfl (Nat.le_of_ble_eq_true rfl) ⟨Nat.zero_le _, Nat.zero_le _⟩ ⟨rfl, rfl, rfl, rfl, by decide, fun _ => rfl, rfl⟩ (fun u hu4 => ?_)
  show fk_V E _ K (0, 0) [(x0, .inr (0, [.ref a0, .ref n0, .ref m0, .ref i0, .ref r0, .ref p0])), (a0, .inr (1, [.ref a1, .ref a2, .ref a3, .int (nI (tr + 1))])), fk_ai E a1 20 (va_up len tr 0)] 7 [(0, .ref x0)] [.int (nI tr)]
  exact hret (0, 0) _ 7 _ () d_F_begin_7 (trivial) (rfl)
theorem d_F_event_0 : decode prog_1_method_3_code 0 = .ok (.aload_n 0, 1) := by decide +kernel
theorem d_F_event_1 : decode prog_1_method_3_code 1 = .ok (.getfield 12, 3) := by decide +kernel
theorem d_F_event_4 : decode prog_1_method_3_code 4 = .ok (.iload_n 1, 1) := by decide +kernel
theorem d_F_event_5 : decode prog_1_method_3_code 5 = .ok (.invokevirtual 51, 3) := by decide +kernel
theorem d_F_event_8 : decode prog_1_method_3_code 8 = .ok (.ireturn, 1) := by decide +kernel
set_option maxRecDepth 20000 in
set_option maxHeartbeats 4000000 in
theorem cX_event (E : fk_E) (x0 : Nat) (a0 : Nat) (n0 : Nat) (m0 : Nat) (i0 : Nat) (r0 : Nat) (p0 : Nat) (a1 : Nat) (a2 : Nat) (a3 : Nat) (tr : Nat) (len : Nat → Nat) (ev : Nat → Nat) (fo : Nat → Nat) (a : Nat) (ha : a < 7) (h0 : 0 < tr) (ht : tr ≤ 20) (hl : len (tr - 1) < 15) (he : ∀ i, i < len (tr - 1) → ev (15 * (tr - 1) + i) < 7) (hf : ∀ k, k < 7 → fo k < 128) : fk_C E fy_F_event prog_1_method_3_code 2 (some .boolean) 2 0 0 [.ref x0, .int (nI a)] [(x0, .inr (0, [.ref a0, .ref n0, .ref m0, .ref i0, .ref r0, .ref p0])), (a0, .inr (1, [.ref a1, .ref a2, .ref a3, .int (nI tr)])), fk_ai E a1 20 len, fk_ai E a2 300 ev, fk_ai E a3 7 fo] (S := Unit) (fun _ => some (.int (nI (Bool.toNat true)))) (fun _ => True) (fun _ => [(x0, .inr (0, [.ref a0, .ref n0, .ref m0, .ref i0, .ref r0, .ref p0])), (a0, .inr (1, [.ref a1, .ref a2, .ref a3, .int (nI tr)])), fk_ai E a1 20 (va_up len (tr - 1) (len (tr - 1) + 1)), fk_ai E a2 300 (va_up ev (15 * (tr - 1) + len (tr - 1)) a), fk_ai E a3 7 (if 0 < len (tr - 1) then va_up fo (ev (15 * (tr - 1) + (len (tr - 1) - 1))) (fo (ev (15 * (tr - 1) + (len (tr - 1) - 1))) ||| 2 ^ a) else fo)]) := by
  refine fk_enterZ (v := fun _ => true) (by decide) (Nat.le_of_ble_eq_true rfl) (lv0 := [(0, .ref x0), (1, .int (nI a))]) rfl ?_
  intro K hini hret
  refine fk_aload_n 0 d_F_event_0 rfl ?_
  refine fk_get 0 0 rfl rfl fh_F (Nat.le_of_ble_eq_true rfl) fw_134 rfl d_F_event_1 ?_
  refine fk_iload_n 1 d_F_event_4 rfl ?_
  refine fk_callV (q0 := 1) (As := [.int (nI a)]) (rest := []) (is := [1, 2, 3, 4]) (ir := [0]) (ip := [0, 1, 2, 3, 4]) (wc := [(a0, .inr (1, [.ref a1, .ref a2, .ref a3, .int (nI tr)])), fk_ai E a1 20 len, fk_ai E a2 300 ev, fk_ai E a3 7 fo]) (wr := [(x0, .inr (0, [.ref a0, .ref n0, .ref m0, .ref i0, .ref r0, .ref p0]))]) (w2 := fun _ => [(x0, .inr (0, [.ref a0, .ref n0, .ref m0, .ref i0, .ref r0, .ref p0])), (a0, .inr (1, [.ref a1, .ref a2, .ref a3, .int (nI tr)])), fk_ai E a1 20 (va_up len (tr - 1) (len (tr - 1) + 1)), fk_ai E a2 300 (va_up ev (15 * (tr - 1) + len (tr - 1)) a), fk_ai E a3 7 (if 0 < len (tr - 1) then va_up fo (ev (15 * (tr - 1) + (len (tr - 1) - 1))) (fo (ev (15 * (tr - 1) + (len (tr - 1) - 1))) ||| 2 ^ a) else fo)]) (cL_append E a0 a1 a2 a3 tr len ev fo a (by first | omega | assumption) (by first | omega | assumption) (by first | omega | assumption) (by first | omega | assumption) (by first | omega | assumption) (by first | omega | assumption)) d_F_event_5 fz_Lg_append fw_169 rfl rfl fw_170 fw_171 ⟨Nat.le_of_ble_eq_true rfl, Nat.le_of_ble_eq_true rfl⟩ rfl (Nat.le_of_ble_eq_true rfl) ⟨Nat.zero_le _, Nat.zero_le _⟩ ⟨rfl, rfl, rfl, rfl, by decide, fun _ => rfl, rfl⟩ (fun u hu5 => ?_)
  show fk_V E _ K (0, 0) [(x0, .inr (0, [.ref a0, .ref n0, .ref m0, .ref i0, .ref r0, .ref p0])), (a0, .inr (1, [.ref a1, .ref a2, .ref a3, .int (nI tr)])), fk_ai E a1 20 (va_up len (tr - 1) (len (tr - 1) + 1)), fk_ai E a2 300 (va_up ev (15 * (tr - 1) + len (tr - 1)) a), fk_ai E a3 7 (if 0 < len (tr - 1) then va_up fo (ev (15 * (tr - 1) + (len (tr - 1) - 1))) (fo (ev (15 * (tr - 1) + (len (tr - 1) - 1))) ||| 2 ^ a) else fo)] 8 [(0, .ref x0), (1, .int (nI a))] [.int (nI (Bool.toNat true))]
  exact hret (0, 0) _ 8 _ () d_F_event_8 (trivial) (rfl)
set_option maxRecDepth 20000 in
set_option maxHeartbeats 4000000 in
theorem cX_eventA (E : fk_E) (x0 : Nat) (a0 : Nat) (n0 : Nat) (m0 : Nat) (i0 : Nat) (r0 : Nat) (p0 : Nat) (a1 : Nat) (a2 : Nat) (a3 : Nat) (tr : Nat) (len : Nat → Nat) (ev : Nat → Nat) (fo : Nat → Nat) (a : Nat) (ha : 7 ≤ a) (ha2 : a < 2 ^ 31) : fk_C E fy_F_event prog_1_method_3_code 2 (some .boolean) 2 0 0 [.ref x0, .int (nI a)] [(x0, .inr (0, [.ref a0, .ref n0, .ref m0, .ref i0, .ref r0, .ref p0])), (a0, .inr (1, [.ref a1, .ref a2, .ref a3, .int (nI tr)])), fk_ai E a1 20 len, fk_ai E a2 300 ev, fk_ai E a3 7 fo] (S := Unit) (fun _ => some (.int (nI (Bool.toNat false)))) (fun _ => True) (fun _ => [(x0, .inr (0, [.ref a0, .ref n0, .ref m0, .ref i0, .ref r0, .ref p0])), (a0, .inr (1, [.ref a1, .ref a2, .ref a3, .int (nI tr)])), fk_ai E a1 20 len, fk_ai E a2 300 ev, fk_ai E a3 7 fo]) := by
  refine fk_enterZ (v := fun _ => false) (by decide) (Nat.le_of_ble_eq_true rfl) (lv0 := [(0, .ref x0), (1, .int (nI a))]) rfl ?_
  intro K hini hret
  refine fk_aload_n 0 d_F_event_0 rfl ?_
  refine fk_get 0 0 rfl rfl fh_F (Nat.le_of_ble_eq_true rfl) fw_134 rfl d_F_event_1 ?_
  refine fk_iload_n 1 d_F_event_4 rfl ?_
  refine fk_callV (q0 := 1) (As := [.int (nI a)]) (rest := []) (is := [1, 2, 3, 4]) (ir := [0]) (ip := [0, 1, 2, 3, 4]) (wc := [(a0, .inr (1, [.ref a1, .ref a2, .ref a3, .int (nI tr)])), fk_ai E a1 20 len, fk_ai E a2 300 ev, fk_ai E a3 7 fo]) (wr := [(x0, .inr (0, [.ref a0, .ref n0, .ref m0, .ref i0, .ref r0, .ref p0]))]) (w2 := fun _ => [(x0, .inr (0, [.ref a0, .ref n0, .ref m0, .ref i0, .ref r0, .ref p0])), (a0, .inr (1, [.ref a1, .ref a2, .ref a3, .int (nI tr)])), fk_ai E a1 20 len, fk_ai E a2 300 ev, fk_ai E a3 7 fo]) (cL_appendA E a0 a1 a2 a3 tr len ev fo a (by first | omega | assumption) (by first | omega | assumption)) d_F_event_5 fz_Lg_append fw_169 rfl rfl fw_170 fw_171 ⟨Nat.le_of_ble_eq_true rfl, Nat.le_of_ble_eq_true rfl⟩ rfl (Nat.le_of_ble_eq_true rfl) ⟨Nat.zero_le _, Nat.zero_le _⟩ ⟨rfl, rfl, rfl, rfl, by decide, fun _ => rfl, rfl⟩ (fun u hu5 => ?_)
  show fk_V E _ K (0, 0) [(x0, .inr (0, [.ref a0, .ref n0, .ref m0, .ref i0, .ref r0, .ref p0])), (a0, .inr (1, [.ref a1, .ref a2, .ref a3, .int (nI tr)])), fk_ai E a1 20 len, fk_ai E a2 300 ev, fk_ai E a3 7 fo] 8 [(0, .ref x0), (1, .int (nI a))] [.int (nI (Bool.toNat false))]
  exact hret (0, 0) _ 8 _ () d_F_event_8 (trivial) (rfl)
set_option maxRecDepth 20000 in
set_option maxHeartbeats 4000000 in
theorem cX_eventM (E : fk_E) (x0 : Nat) (a0 : Nat) (n0 : Nat) (m0 : Nat) (i0 : Nat) (r0 : Nat) (p0 : Nat) (a1 : Nat) (a2 : Nat) (a3 : Nat) (tr : Nat) (len : Nat → Nat) (ev : Nat → Nat) (fo : Nat → Nat) (x : Int32) (hx : x < 0) : fk_C E fy_F_event prog_1_method_3_code 2 (some .boolean) 2 0 0 [.ref x0, .int x] [(x0, .inr (0, [.ref a0, .ref n0, .ref m0, .ref i0, .ref r0, .ref p0])), (a0, .inr (1, [.ref a1, .ref a2, .ref a3, .int (nI tr)])), fk_ai E a1 20 len, fk_ai E a2 300 ev, fk_ai E a3 7 fo] (S := Unit) (fun _ => some (.int (nI (Bool.toNat false)))) (fun _ => True) (fun _ => [(x0, .inr (0, [.ref a0, .ref n0, .ref m0, .ref i0, .ref r0, .ref p0])), (a0, .inr (1, [.ref a1, .ref a2, .ref a3, .int (nI tr)])), fk_ai E a1 20 len, fk_ai E a2 300 ev, fk_ai E a3 7 fo]) := by
  refine fk_enterZ (v := fun _ => false) (by decide) (Nat.le_of_ble_eq_true rfl) (lv0 := [(0, .ref x0), (1, .int x)]) rfl ?_
  intro K hini hret
  refine fk_aload_n 0 d_F_event_0 rfl ?_
  refine fk_get 0 0 rfl rfl fh_F (Nat.le_of_ble_eq_true rfl) fw_134 rfl d_F_event_1 ?_
  refine fk_iload_n 1 d_F_event_4 rfl ?_
  refine fk_callV (q0 := 1) (As := [.int x]) (rest := []) (is := [1, 2, 3, 4]) (ir := [0]) (ip := [0, 1, 2, 3, 4]) (wc := [(a0, .inr (1, [.ref a1, .ref a2, .ref a3, .int (nI tr)])), fk_ai E a1 20 len, fk_ai E a2 300 ev, fk_ai E a3 7 fo]) (wr := [(x0, .inr (0, [.ref a0, .ref n0, .ref m0, .ref i0, .ref r0, .ref p0]))]) (w2 := fun _ => [(x0, .inr (0, [.ref a0, .ref n0, .ref m0, .ref i0, .ref r0, .ref p0])), (a0, .inr (1, [.ref a1, .ref a2, .ref a3, .int (nI tr)])), fk_ai E a1 20 len, fk_ai E a2 300 ev, fk_ai E a3 7 fo]) (cL_appendM E a0 a1 a2 a3 tr len ev fo x (by first | omega | assumption)) d_F_event_5 fz_Lg_append fw_169 rfl rfl fw_170 fw_171 ⟨Nat.le_of_ble_eq_true rfl, Nat.le_of_ble_eq_true rfl⟩ rfl (Nat.le_of_ble_eq_true rfl) ⟨Nat.zero_le _, Nat.zero_le _⟩ ⟨rfl, rfl, rfl, rfl, by decide, fun _ => rfl, rfl⟩ (fun u hu5 => ?_)
  show fk_V E _ K (0, 0) [(x0, .inr (0, [.ref a0, .ref n0, .ref m0, .ref i0, .ref r0, .ref p0])), (a0, .inr (1, [.ref a1, .ref a2, .ref a3, .int (nI tr)])), fk_ai E a1 20 len, fk_ai E a2 300 ev, fk_ai E a3 7 fo] 8 [(0, .ref x0), (1, .int x)] [.int (nI (Bool.toNat false))]
  exact hret (0, 0) _ 8 _ () d_F_event_8 (trivial) (rfl)
set_option maxRecDepth 20000 in
set_option maxHeartbeats 4000000 in
theorem cX_event0 (E : fk_E) (x0 : Nat) (a0 : Nat) (n0 : Nat) (m0 : Nat) (i0 : Nat) (r0 : Nat) (p0 : Nat) (a1 : Nat) (a2 : Nat) (a3 : Nat) (tr : Nat) (len : Nat → Nat) (ev : Nat → Nat) (fo : Nat → Nat) (a : Nat) (ha2 : a < 2 ^ 31) (h0 : tr = 0) : fk_C E fy_F_event prog_1_method_3_code 2 (some .boolean) 2 0 0 [.ref x0, .int (nI a)] [(x0, .inr (0, [.ref a0, .ref n0, .ref m0, .ref i0, .ref r0, .ref p0])), (a0, .inr (1, [.ref a1, .ref a2, .ref a3, .int (nI tr)])), fk_ai E a1 20 len, fk_ai E a2 300 ev, fk_ai E a3 7 fo] (S := Unit) (fun _ => some (.int (nI (Bool.toNat false)))) (fun _ => True) (fun _ => [(x0, .inr (0, [.ref a0, .ref n0, .ref m0, .ref i0, .ref r0, .ref p0])), (a0, .inr (1, [.ref a1, .ref a2, .ref a3, .int (nI tr)])), fk_ai E a1 20 len, fk_ai E a2 300 ev, fk_ai E a3 7 fo]) := by
  refine fk_enterZ (v := fun _ => false) (by decide) (Nat.le_of_ble_eq_true rfl) (lv0 := [(0, .ref x0), (1, .int (nI a))]) rfl ?_
  intro K hini hret
  refine fk_aload_n 0 d_F_event_0 rfl ?_
  refine fk_get 0 0 rfl rfl fh_F (Nat.le_of_ble_eq_true rfl) fw_134 rfl d_F_event_1 ?_
  refine fk_iload_n 1 d_F_event_4 rfl ?_
  refine fk_callV (q0 := 1) (As := [.int (nI a)]) (rest := []) (is := [1, 2, 3, 4]) (ir := [0]) (ip := [0, 1, 2, 3, 4]) (wc := [(a0, .inr (1, [.ref a1, .ref a2, .ref a3, .int (nI tr)])), fk_ai E a1 20 len, fk_ai E a2 300 ev, fk_ai E a3 7 fo]) (wr := [(x0, .inr (0, [.ref a0, .ref n0, .ref m0, .ref i0, .ref r0, .ref p0]))]) (w2 := fun _ => [(x0, .inr (0, [.ref a0, .ref n0, .ref m0, .ref i0, .ref r0, .ref p0])), (a0, .inr (1, [.ref a1, .ref a2, .ref a3, .int (nI tr)])), fk_ai E a1 20 len, fk_ai E a2 300 ev, fk_ai E a3 7 fo]) (cL_append0 E a0 a1 a2 a3 tr len ev fo a (by first | omega | assumption) (by first | omega | assumption)) d_F_event_5 fz_Lg_append fw_169 rfl rfl fw_170 fw_171 ⟨Nat.le_of_ble_eq_true rfl, Nat.le_of_ble_eq_true rfl⟩ rfl (Nat.le_of_ble_eq_true rfl) ⟨Nat.zero_le _, Nat.zero_le _⟩ ⟨rfl, rfl, rfl, rfl, by decide, fun _ => rfl, rfl⟩ (fun u hu5 => ?_)
  show fk_V E _ K (0, 0) [(x0, .inr (0, [.ref a0, .ref n0, .ref m0, .ref i0, .ref r0, .ref p0])), (a0, .inr (1, [.ref a1, .ref a2, .ref a3, .int (nI tr)])), fk_ai E a1 20 len, fk_ai E a2 300 ev, fk_ai E a3 7 fo] 8 [(0, .ref x0), (1, .int (nI a))] [.int (nI (Bool.toNat false))]
  exact hret (0, 0) _ 8 _ () d_F_event_8 (trivial) (rfl)
set_option maxRecDepth 20000 in
set_option maxHeartbeats 4000000 in
theorem cX_eventF (E : fk_E) (x0 : Nat) (a0 : Nat) (n0 : Nat) (m0 : Nat) (i0 : Nat) (r0 : Nat) (p0 : Nat) (a1 : Nat) (a2 : Nat) (a3 : Nat) (tr : Nat) (len : Nat → Nat) (ev : Nat → Nat) (fo : Nat → Nat) (a : Nat) (ha2 : a < 2 ^ 31) (h0 : 0 < tr) (ht : tr ≤ 20) (hl : len (tr - 1) = 15) : fk_C E fy_F_event prog_1_method_3_code 2 (some .boolean) 2 0 0 [.ref x0, .int (nI a)] [(x0, .inr (0, [.ref a0, .ref n0, .ref m0, .ref i0, .ref r0, .ref p0])), (a0, .inr (1, [.ref a1, .ref a2, .ref a3, .int (nI tr)])), fk_ai E a1 20 len, fk_ai E a2 300 ev, fk_ai E a3 7 fo] (S := Unit) (fun _ => some (.int (nI (Bool.toNat false)))) (fun _ => True) (fun _ => [(x0, .inr (0, [.ref a0, .ref n0, .ref m0, .ref i0, .ref r0, .ref p0])), (a0, .inr (1, [.ref a1, .ref a2, .ref a3, .int (nI tr)])), fk_ai E a1 20 len, fk_ai E a2 300 ev, fk_ai E a3 7 fo]) := by
  refine fk_enterZ (v := fun _ => false) (by decide) (Nat.le_of_ble_eq_true rfl) (lv0 := [(0, .ref x0), (1, .int (nI a))]) rfl ?_
  intro K hini hret
  refine fk_aload_n 0 d_F_event_0 rfl ?_
  refine fk_get 0 0 rfl rfl fh_F (Nat.le_of_ble_eq_true rfl) fw_134 rfl d_F_event_1 ?_
  refine fk_iload_n 1 d_F_event_4 rfl ?_
  refine fk_callV (q0 := 1) (As := [.int (nI a)]) (rest := []) (is := [1, 2, 3, 4]) (ir := [0]) (ip := [0, 1, 2, 3, 4]) (wc := [(a0, .inr (1, [.ref a1, .ref a2, .ref a3, .int (nI tr)])), fk_ai E a1 20 len, fk_ai E a2 300 ev, fk_ai E a3 7 fo]) (wr := [(x0, .inr (0, [.ref a0, .ref n0, .ref m0, .ref i0, .ref r0, .ref p0]))]) (w2 := fun _ => [(x0, .inr (0, [.ref a0, .ref n0, .ref m0, .ref i0, .ref r0, .ref p0])), (a0, .inr (1, [.ref a1, .ref a2, .ref a3, .int (nI tr)])), fk_ai E a1 20 len, fk_ai E a2 300 ev, fk_ai E a3 7 fo]) (cL_appendF E a0 a1 a2 a3 tr len ev fo a (by first | omega | assumption) (by first | omega | assumption) (by first | omega | assumption) (by first | omega | assumption)) d_F_event_5 fz_Lg_append fw_169 rfl rfl fw_170 fw_171 ⟨Nat.le_of_ble_eq_true rfl, Nat.le_of_ble_eq_true rfl⟩ rfl (Nat.le_of_ble_eq_true rfl) ⟨Nat.zero_le _, Nat.zero_le _⟩ ⟨rfl, rfl, rfl, rfl, by decide, fun _ => rfl, rfl⟩ (fun u hu5 => ?_)
  show fk_V E _ K (0, 0) [(x0, .inr (0, [.ref a0, .ref n0, .ref m0, .ref i0, .ref r0, .ref p0])), (a0, .inr (1, [.ref a1, .ref a2, .ref a3, .int (nI tr)])), fk_ai E a1 20 len, fk_ai E a2 300 ev, fk_ai E a3 7 fo] 8 [(0, .ref x0), (1, .int (nI a))] [.int (nI (Bool.toNat false))]
  exact hret (0, 0) _ 8 _ () d_F_event_8 (trivial) (rfl)
theorem d_F_clear_0 : decode prog_1_method_4_code 0 = .ok (.aload_n 0, 1) := by decide +kernel
theorem d_F_clear_1 : decode prog_1_method_4_code 1 = .ok (.getfield 12, 3) := by decide +kernel
theorem d_F_clear_4 : decode prog_1_method_4_code 4 = .ok (.invokevirtual 55, 3) := by decide +kernel
theorem d_F_clear_7 : decode prog_1_method_4_code 7 = .ok (.return_, 1) := by decide +kernel
set_option maxRecDepth 20000 in
set_option maxHeartbeats 4000000 in
theorem cX_clear (E : fk_E) (x0 : Nat) (a0 : Nat) (n0 : Nat) (m0 : Nat) (i0 : Nat) (r0 : Nat) (p0 : Nat) (a1 : Nat) (a2 : Nat) (a3 : Nat) (tr : Nat) (fo : Nat → Nat)  : fk_C E fy_F_clear prog_1_method_4_code 1 none 2 0 0 [.ref x0] [(x0, .inr (0, [.ref a0, .ref n0, .ref m0, .ref i0, .ref r0, .ref p0])), (a0, .inr (1, [.ref a1, .ref a2, .ref a3, .int (nI tr)])), fk_ai E a3 7 fo] (S := (Nat → Nat)) (fun (u : (Nat → Nat)) => none) (fun (u : (Nat → Nat)) => ∀ k, k < 7 → u k = 0) (fun (u : (Nat → Nat)) => [(x0, .inr (0, [.ref a0, .ref n0, .ref m0, .ref i0, .ref r0, .ref p0])), (a0, .inr (1, [.ref a1, .ref a2, .ref a3, .int (nI 0)])), fk_ai E a3 7 u]) := by
  refine fk_enterV (by decide) (Nat.le_of_ble_eq_true rfl) (lv0 := [(0, .ref x0)]) rfl ?_
  intro K hini hret
  refine fk_aload_n 0 d_F_clear_0 rfl ?_
  refine fk_get 0 0 rfl rfl fh_F (Nat.le_of_ble_eq_true rfl) fw_134 rfl d_F_clear_1 ?_
  refine fk_callV (q0 := 1) (As := []) (rest := []) (is := [1, 2]) (ir := [0]) (ip := [0, 1, 2]) (wc := [(a0, .inr (1, [.ref a1, .ref a2, .ref a3, .int (nI tr)])), fk_ai E a3 7 fo]) (wr := [(x0, .inr (0, [.ref a0, .ref n0, .ref m0, .ref i0, .ref r0, .ref p0]))]) (w2 := fun u => [(x0, .inr (0, [.ref a0, .ref n0, .ref m0, .ref i0, .ref r0, .ref p0])), (a0, .inr (1, [.ref a1, .ref a2, .ref a3, .int (nI 0)])), fk_ai E a3 7 u]) (cL_removeTraces E a0 a1 a2 a3 tr fo ) d_F_clear_4 fz_Lg_removeTraces fw_184 rfl rfl fw_185 fw_186 ⟨Nat.le_of_ble_eq_true rfl, Nat.le_of_ble_eq_true rfl⟩ rfl (Nat.le_of_ble_eq_true rfl) ⟨Nat.zero_le _, Nat.zero_le _⟩ ⟨rfl, rfl, rfl, rfl, by decide, fun _ => rfl, rfl⟩ (fun u hu4 => ?_)
  obtain ⟨g9_4, rfl⟩ : ∃ z, z = u := ⟨_, rfl⟩
  have hq4 : ∀ k, k < 7 → g9_4 k = 0 := hu4
  show fk_V E _ K (0, 0) [(x0, .inr (0, [.ref a0, .ref n0, .ref m0, .ref i0, .ref r0, .ref p0])), (a0, .inr (1, [.ref a1, .ref a2, .ref a3, .int (nI 0)])), fk_ai E a3 7 g9_4] 7 [(0, .ref x0)] []
  have hpp : ∀ k, k < 7 → g9_4 k = 0 := hq4
  exact hret (0, 0) _ 7 _ g9_4 d_F_clear_7 (hpp) (rfl)
theorem d_F_length_0 : decode prog_1_method_5_code 0 = .ok (.aload_n 0, 1) := by decide +kernel
theorem d_F_length_1 : decode prog_1_method_5_code 1 = .ok (.getfield 12, 3) := by decide +kernel
theorem d_F_length_4 : decode prog_1_method_5_code 4 = .ok (.iload_n 1, 1) := by decide +kernel
theorem d_F_length_5 : decode prog_1_method_5_code 5 = .ok (.invokevirtual 58, 3) := by decide +kernel
theorem d_F_length_8 : decode prog_1_method_5_code 8 = .ok (.ifCond .eq 14, 3) := by decide +kernel
theorem d_F_length_11 : decode prog_1_method_5_code 11 = .ok (.aload_n 0, 1) := by decide +kernel
theorem d_F_length_12 : decode prog_1_method_5_code 12 = .ok (.getfield 12, 3) := by decide +kernel
theorem d_F_length_15 : decode prog_1_method_5_code 15 = .ok (.iload_n 1, 1) := by decide +kernel
theorem d_F_length_16 : decode prog_1_method_5_code 16 = .ok (.invokevirtual 61, 3) := by decide +kernel
theorem d_F_length_19 : decode prog_1_method_5_code 19 = .ok (.goto 4, 3) := by decide +kernel
theorem d_F_length_22 : decode prog_1_method_5_code 22 = .ok (.iconst (-1), 1) := by decide +kernel
theorem d_F_length_23 : decode prog_1_method_5_code 23 = .ok (.ireturn, 1) := by decide +kernel
set_option maxRecDepth 20000 in
set_option maxHeartbeats 4000000 in
theorem cX_length (E : fk_E) (x0 : Nat) (a0 : Nat) (n0 : Nat) (m0 : Nat) (i0 : Nat) (r0 : Nat) (p0 : Nat) (a1 : Nat) (a2 : Nat) (a3 : Nat) (tr : Nat) (len : Nat → Nat) (t : Nat) (ht : tr ≤ 20) (h1 : t < tr) : fk_C E fy_F_length prog_1_method_5_code 2 (some .int) 1 0 0 [.ref x0, .int (nI t)] [(x0, .inr (0, [.ref a0, .ref n0, .ref m0, .ref i0, .ref r0, .ref p0])), (a0, .inr (1, [.ref a1, .ref a2, .ref a3, .int (nI tr)])), fk_ai E a1 20 len] (S := Unit) (fun _ => some (.int (nI (len t)))) (fun _ => True) (fun _ => [(x0, .inr (0, [.ref a0, .ref n0, .ref m0, .ref i0, .ref r0, .ref p0])), (a0, .inr (1, [.ref a1, .ref a2, .ref a3, .int (nI tr)])), fk_ai E a1 20 len]) := by
  refine fk_enterI (v := fun _ => (nI (len t))) (by decide) (Nat.le_of_ble_eq_true rfl) (lv0 := [(0, .ref x0), (1, .int (nI t))]) rfl ?_
  intro K hini hret
  refine fk_aload_n 0 d_F_length_0 rfl ?_
  refine fk_get 0 0 rfl rfl fh_F (Nat.le_of_ble_eq_true rfl) fw_134 rfl d_F_length_1 ?_
  refine fk_iload_n 1 d_F_length_4 rfl ?_
  refine fk_callV (q0 := 1) (As := [.int (nI t)]) (rest := []) (is := [1]) (ir := [0, 2]) (ip := [0, 2, 1]) (wc := [(a0, .inr (1, [.ref a1, .ref a2, .ref a3, .int (nI tr)]))]) (wr := [(x0, .inr (0, [.ref a0, .ref n0, .ref m0, .ref i0, .ref r0, .ref p0])), fk_ai E a1 20 len]) (w2 := fun _ => [(x0, .inr (0, [.ref a0, .ref n0, .ref m0, .ref i0, .ref r0, .ref p0])), (a0, .inr (1, [.ref a1, .ref a2, .ref a3, .int (nI tr)])), fk_ai E a1 20 len]) (cL_hasTrace E a0 a1 a2 a3 tr t (by first | omega | assumption) (by first | omega | assumption)) d_F_length_5 fz_Lg_hasTrace fw_195 rfl rfl fw_196 fw_197 ⟨Nat.le_of_ble_eq_true rfl, Nat.le_of_ble_eq_true rfl⟩ rfl (Nat.le_of_ble_eq_true rfl) ⟨Nat.zero_le _, Nat.zero_le _⟩ ⟨rfl, rfl, rfl, rfl, by decide, fun _ => rfl, rfl⟩ (fun u hu5 => ?_)
  show fk_V E _ K (0, 0) [(x0, .inr (0, [.ref a0, .ref n0, .ref m0, .ref i0, .ref r0, .ref p0])), (a0, .inr (1, [.ref a1, .ref a2, .ref a3, .int (nI tr)])), fk_ai E a1 20 len] 8 [(0, .ref x0), (1, .int (nI t))] [.int (nI (Bool.toNat (decide (t < tr))))]
  refine fk_if_eqB (b := (decide (t < tr))) d_F_length_8 rfl (fun h8t => ?_) (fun h8f => ?_)
  · exact absurd (of_decide_eq_false h8t) (by omega)
  · refine fk_aload_n 0 d_F_length_11 rfl ?_
    refine fk_get 0 0 rfl rfl fh_F (Nat.le_of_ble_eq_true rfl) fw_134 rfl d_F_length_12 ?_
    refine fk_iload_n 1 d_F_length_15 rfl ?_
    refine fk_callV (q0 := 1) (As := [.int (nI t)]) (rest := []) (is := [1, 2]) (ir := [0]) (ip := [0, 1, 2]) (wc := [(a0, .inr (1, [.ref a1, .ref a2, .ref a3, .int (nI tr)])), fk_ai E a1 20 len]) (wr := [(x0, .inr (0, [.ref a0, .ref n0, .ref m0, .ref i0, .ref r0, .ref p0]))]) (w2 := fun _ => [(x0, .inr (0, [.ref a0, .ref n0, .ref m0, .ref i0, .ref r0, .ref p0])), (a0, .inr (1, [.ref a1, .ref a2, .ref a3, .int (nI tr)])), fk_ai E a1 20 len]) (cL_lengthOf E a0 a1 a2 a3 tr len t (by first | omega | assumption)) d_F_length_16 fz_Lg_lengthOf fw_199 rfl rfl fw_200 fw_201 ⟨Nat.le_of_ble_eq_true rfl, Nat.le_of_ble_eq_true rfl⟩ rfl (Nat.le_of_ble_eq_true rfl) ⟨Nat.zero_le _, Nat.zero_le _⟩ ⟨rfl, rfl, rfl, rfl, by decide, fun _ => rfl, rfl⟩ (fun u hu16 => ?_)
    show fk_V E _ K (0, 0) [(x0, .inr (0, [.ref a0, .ref n0, .ref m0, .ref i0, .ref r0, .ref p0])), (a0, .inr (1, [.ref a1, .ref a2, .ref a3, .int (nI tr)])), fk_ai E a1 20 len] 19 [(0, .ref x0), (1, .int (nI t))] [.int (nI (len t))]
    refine fk_goto d_F_length_19 rfl ?_
    exact hret (0, 0) _ 23 _ () d_F_length_23 (trivial) (rfl)
set_option maxRecDepth 20000 in
set_option maxHeartbeats 4000000 in
theorem cX_lengthO (E : fk_E) (x0 : Nat) (a0 : Nat) (n0 : Nat) (m0 : Nat) (i0 : Nat) (r0 : Nat) (p0 : Nat) (a1 : Nat) (a2 : Nat) (a3 : Nat) (tr : Nat) (len : Nat → Nat) (t : Nat) (ht : tr ≤ 20) (h1 : tr ≤ t) (h2 : t < 2 ^ 31) : fk_C E fy_F_length prog_1_method_5_code 2 (some .int) 1 0 0 [.ref x0, .int (nI t)] [(x0, .inr (0, [.ref a0, .ref n0, .ref m0, .ref i0, .ref r0, .ref p0])), (a0, .inr (1, [.ref a1, .ref a2, .ref a3, .int (nI tr)])), fk_ai E a1 20 len] (S := Unit) (fun _ => some (.int (nI 0 - 1))) (fun _ => True) (fun _ => [(x0, .inr (0, [.ref a0, .ref n0, .ref m0, .ref i0, .ref r0, .ref p0])), (a0, .inr (1, [.ref a1, .ref a2, .ref a3, .int (nI tr)])), fk_ai E a1 20 len]) := by
  refine fk_enterI (v := fun _ => (nI 0 - 1)) (by decide) (Nat.le_of_ble_eq_true rfl) (lv0 := [(0, .ref x0), (1, .int (nI t))]) rfl ?_
  intro K hini hret
  refine fk_aload_n 0 d_F_length_0 rfl ?_
  refine fk_get 0 0 rfl rfl fh_F (Nat.le_of_ble_eq_true rfl) fw_134 rfl d_F_length_1 ?_
  refine fk_iload_n 1 d_F_length_4 rfl ?_
  refine fk_callV (q0 := 1) (As := [.int (nI t)]) (rest := []) (is := [1]) (ir := [0, 2]) (ip := [0, 2, 1]) (wc := [(a0, .inr (1, [.ref a1, .ref a2, .ref a3, .int (nI tr)]))]) (wr := [(x0, .inr (0, [.ref a0, .ref n0, .ref m0, .ref i0, .ref r0, .ref p0])), fk_ai E a1 20 len]) (w2 := fun _ => [(x0, .inr (0, [.ref a0, .ref n0, .ref m0, .ref i0, .ref r0, .ref p0])), (a0, .inr (1, [.ref a1, .ref a2, .ref a3, .int (nI tr)])), fk_ai E a1 20 len]) (cL_hasTrace E a0 a1 a2 a3 tr t (by first | omega | assumption) (by first | omega | assumption)) d_F_length_5 fz_Lg_hasTrace fw_195 rfl rfl fw_196 fw_197 ⟨Nat.le_of_ble_eq_true rfl, Nat.le_of_ble_eq_true rfl⟩ rfl (Nat.le_of_ble_eq_true rfl) ⟨Nat.zero_le _, Nat.zero_le _⟩ ⟨rfl, rfl, rfl, rfl, by decide, fun _ => rfl, rfl⟩ (fun u hu5 => ?_)
  show fk_V E _ K (0, 0) [(x0, .inr (0, [.ref a0, .ref n0, .ref m0, .ref i0, .ref r0, .ref p0])), (a0, .inr (1, [.ref a1, .ref a2, .ref a3, .int (nI tr)])), fk_ai E a1 20 len] 8 [(0, .ref x0), (1, .int (nI t))] [.int (nI (Bool.toNat (decide (t < tr))))]
  refine fk_if_eqB (b := (decide (t < tr))) d_F_length_8 rfl (fun h8t => ?_) (fun h8f => ?_)
  · refine fk_iconst (v := nI 0 - 1) d_F_length_22 (by decide +kernel) ?_
    exact hret (0, 0) _ 23 _ () d_F_length_23 (trivial) (rfl)
  · exact absurd (of_decide_eq_true h8f) (by omega)
set_option maxRecDepth 20000 in
set_option maxHeartbeats 4000000 in
theorem cX_lengthM (E : fk_E) (x0 : Nat) (a0 : Nat) (n0 : Nat) (m0 : Nat) (i0 : Nat) (r0 : Nat) (p0 : Nat) (a1 : Nat) (a2 : Nat) (a3 : Nat) (tr : Nat) (len : Nat → Nat) (x : Int32) (hx : x < 0) : fk_C E fy_F_length prog_1_method_5_code 2 (some .int) 1 0 0 [.ref x0, .int x] [(x0, .inr (0, [.ref a0, .ref n0, .ref m0, .ref i0, .ref r0, .ref p0])), (a0, .inr (1, [.ref a1, .ref a2, .ref a3, .int (nI tr)])), fk_ai E a1 20 len] (S := Unit) (fun _ => some (.int (nI 0 - 1))) (fun _ => True) (fun _ => [(x0, .inr (0, [.ref a0, .ref n0, .ref m0, .ref i0, .ref r0, .ref p0])), (a0, .inr (1, [.ref a1, .ref a2, .ref a3, .int (nI tr)])), fk_ai E a1 20 len]) := by
  refine fk_enterI (v := fun _ => (nI 0 - 1)) (by decide) (Nat.le_of_ble_eq_true rfl) (lv0 := [(0, .ref x0), (1, .int x)]) rfl ?_
  intro K hini hret
  refine fk_aload_n 0 d_F_length_0 rfl ?_
  refine fk_get 0 0 rfl rfl fh_F (Nat.le_of_ble_eq_true rfl) fw_134 rfl d_F_length_1 ?_
  refine fk_iload_n 1 d_F_length_4 rfl ?_
  refine fk_callV (q0 := 1) (As := [.int x]) (rest := []) (is := [1]) (ir := [0, 2]) (ip := [0, 2, 1]) (wc := [(a0, .inr (1, [.ref a1, .ref a2, .ref a3, .int (nI tr)]))]) (wr := [(x0, .inr (0, [.ref a0, .ref n0, .ref m0, .ref i0, .ref r0, .ref p0])), fk_ai E a1 20 len]) (w2 := fun _ => [(x0, .inr (0, [.ref a0, .ref n0, .ref m0, .ref i0, .ref r0, .ref p0])), (a0, .inr (1, [.ref a1, .ref a2, .ref a3, .int (nI tr)])), fk_ai E a1 20 len]) (cL_hasTraceM E a0 a1 a2 a3 tr x (by first | omega | assumption)) d_F_length_5 fz_Lg_hasTrace fw_195 rfl rfl fw_196 fw_197 ⟨Nat.le_of_ble_eq_true rfl, Nat.le_of_ble_eq_true rfl⟩ rfl (Nat.le_of_ble_eq_true rfl) ⟨Nat.zero_le _, Nat.zero_le _⟩ ⟨rfl, rfl, rfl, rfl, by decide, fun _ => rfl, rfl⟩ (fun u hu5 => ?_)
  show fk_V E _ K (0, 0) [(x0, .inr (0, [.ref a0, .ref n0, .ref m0, .ref i0, .ref r0, .ref p0])), (a0, .inr (1, [.ref a1, .ref a2, .ref a3, .int (nI tr)])), fk_ai E a1 20 len] 8 [(0, .ref x0), (1, .int x)] [.int (nI (Bool.toNat false))]
  refine fk_if_eqB (b := false) d_F_length_8 rfl (fun h8t => ?_) (fun h8f => ?_)
  · refine fk_iconst (v := nI 0 - 1) d_F_length_22 (by decide +kernel) ?_
    exact hret (0, 0) _ 23 _ () d_F_length_23 (trivial) (rfl)
  · exact absurd h8f (by decide)
theorem d_F_at_0 : decode prog_1_method_6_code 0 = .ok (.aload_n 0, 1) := by decide +kernel
theorem d_F_at_1 : decode prog_1_method_6_code 1 = .ok (.getfield 12, 3) := by decide +kernel
theorem d_F_at_4 : decode prog_1_method_6_code 4 = .ok (.iload_n 1, 1) := by decide +kernel
theorem d_F_at_5 : decode prog_1_method_6_code 5 = .ok (.iload_n 2, 1) := by decide +kernel
theorem d_F_at_6 : decode prog_1_method_6_code 6 = .ok (.invokevirtual 65, 3) := by decide +kernel
theorem d_F_at_9 : decode prog_1_method_6_code 9 = .ok (.ifCond .eq 15, 3) := by decide +kernel
theorem d_F_at_12 : decode prog_1_method_6_code 12 = .ok (.aload_n 0, 1) := by decide +kernel
theorem d_F_at_13 : decode prog_1_method_6_code 13 = .ok (.getfield 12, 3) := by decide +kernel
theorem d_F_at_16 : decode prog_1_method_6_code 16 = .ok (.iload_n 1, 1) := by decide +kernel
theorem d_F_at_17 : decode prog_1_method_6_code 17 = .ok (.iload_n 2, 1) := by decide +kernel
theorem d_F_at_18 : decode prog_1_method_6_code 18 = .ok (.invokevirtual 69, 3) := by decide +kernel
theorem d_F_at_21 : decode prog_1_method_6_code 21 = .ok (.goto 4, 3) := by decide +kernel
theorem d_F_at_24 : decode prog_1_method_6_code 24 = .ok (.iconst (-1), 1) := by decide +kernel
theorem d_F_at_25 : decode prog_1_method_6_code 25 = .ok (.ireturn, 1) := by decide +kernel
set_option maxRecDepth 20000 in
set_option maxHeartbeats 4000000 in
theorem cX_at (E : fk_E) (x0 : Nat) (a0 : Nat) (n0 : Nat) (m0 : Nat) (i0 : Nat) (r0 : Nat) (p0 : Nat) (a1 : Nat) (a2 : Nat) (a3 : Nat) (tr : Nat) (len : Nat → Nat) (ev : Nat → Nat) (t : Nat) (i : Nat) (ht : tr ≤ 20) (h3 : ∀ k, k < 20 → len k ≤ 15) (h1 : t < tr) (h2 : i < len t) : fk_C E fy_F_at prog_1_method_6_code 3 (some .int) 2 0 0 [.ref x0, .int (nI t), .int (nI i)] [(x0, .inr (0, [.ref a0, .ref n0, .ref m0, .ref i0, .ref r0, .ref p0])), (a0, .inr (1, [.ref a1, .ref a2, .ref a3, .int (nI tr)])), fk_ai E a1 20 len, fk_ai E a2 300 ev] (S := Unit) (fun _ => some (.int (nI (ev (15 * t + i))))) (fun _ => True) (fun _ => [(x0, .inr (0, [.ref a0, .ref n0, .ref m0, .ref i0, .ref r0, .ref p0])), (a0, .inr (1, [.ref a1, .ref a2, .ref a3, .int (nI tr)])), fk_ai E a1 20 len, fk_ai E a2 300 ev]) := by
  refine fk_enterI (v := fun _ => (nI (ev (15 * t + i)))) (by decide) (Nat.le_of_ble_eq_true rfl) (lv0 := [(0, .ref x0), (1, .int (nI t)), (2, .int (nI i))]) rfl ?_
  intro K hini hret
  have h9 := h3 t (by omega)
  refine fk_aload_n 0 d_F_at_0 rfl ?_
  refine fk_get 0 0 rfl rfl fh_F (Nat.le_of_ble_eq_true rfl) fw_134 rfl d_F_at_1 ?_
  refine fk_iload_n 1 d_F_at_4 rfl ?_
  refine fk_iload_n 2 d_F_at_5 rfl ?_
  refine fk_callV (q0 := 1) (As := [.int (nI t), .int (nI i)]) (rest := []) (is := [1, 2]) (ir := [0, 3]) (ip := [0, 2, 3, 1]) (wc := [(a0, .inr (1, [.ref a1, .ref a2, .ref a3, .int (nI tr)])), fk_ai E a1 20 len]) (wr := [(x0, .inr (0, [.ref a0, .ref n0, .ref m0, .ref i0, .ref r0, .ref p0])), fk_ai E a2 300 ev]) (w2 := fun _ => [(x0, .inr (0, [.ref a0, .ref n0, .ref m0, .ref i0, .ref r0, .ref p0])), (a0, .inr (1, [.ref a1, .ref a2, .ref a3, .int (nI tr)])), fk_ai E a1 20 len, fk_ai E a2 300 ev]) (cL_hasEvent E a0 a1 a2 a3 tr len t i (by first | omega | assumption) (by first | omega | assumption) (by first | omega | assumption) (by first | omega | assumption)) d_F_at_6 fz_Lg_hasEvent fw_207 rfl rfl fw_208 fw_209 ⟨Nat.le_of_ble_eq_true rfl, Nat.le_of_ble_eq_true rfl⟩ rfl (Nat.le_of_ble_eq_true rfl) ⟨Nat.zero_le _, Nat.zero_le _⟩ ⟨rfl, rfl, rfl, rfl, by decide, fun _ => rfl, rfl⟩ (fun u hu6 => ?_)
  show fk_V E _ K (0, 0) [(x0, .inr (0, [.ref a0, .ref n0, .ref m0, .ref i0, .ref r0, .ref p0])), (a0, .inr (1, [.ref a1, .ref a2, .ref a3, .int (nI tr)])), fk_ai E a1 20 len, fk_ai E a2 300 ev] 9 [(0, .ref x0), (1, .int (nI t)), (2, .int (nI i))] [.int (nI (Bool.toNat (decide (t < tr ∧ i < len t))))]
  refine fk_if_eqB (b := (decide (t < tr ∧ i < len t))) d_F_at_9 rfl (fun h9t => ?_) (fun h9f => ?_)
  · exact absurd (of_decide_eq_false h9t) (by omega)
  · refine fk_aload_n 0 d_F_at_12 rfl ?_
    refine fk_get 0 0 rfl rfl fh_F (Nat.le_of_ble_eq_true rfl) fw_134 rfl d_F_at_13 ?_
    refine fk_iload_n 1 d_F_at_16 rfl ?_
    refine fk_iload_n 2 d_F_at_17 rfl ?_
    refine fk_callV (q0 := 1) (As := [.int (nI t), .int (nI i)]) (rest := []) (is := [1, 3]) (ir := [0, 2]) (ip := [0, 2, 1, 3]) (wc := [(a0, .inr (1, [.ref a1, .ref a2, .ref a3, .int (nI tr)])), fk_ai E a2 300 ev]) (wr := [(x0, .inr (0, [.ref a0, .ref n0, .ref m0, .ref i0, .ref r0, .ref p0])), fk_ai E a1 20 len]) (w2 := fun _ => [(x0, .inr (0, [.ref a0, .ref n0, .ref m0, .ref i0, .ref r0, .ref p0])), (a0, .inr (1, [.ref a1, .ref a2, .ref a3, .int (nI tr)])), fk_ai E a1 20 len, fk_ai E a2 300 ev]) (cL_activityAt E a0 a1 a2 a3 tr ev t i (by first | omega | assumption)) d_F_at_18 fz_Lg_activityAt fw_212 rfl rfl fw_177 fw_178 ⟨Nat.le_of_ble_eq_true rfl, Nat.le_of_ble_eq_true rfl⟩ rfl (Nat.le_of_ble_eq_true rfl) ⟨Nat.zero_le _, Nat.zero_le _⟩ ⟨rfl, rfl, rfl, rfl, by decide, fun _ => rfl, rfl⟩ (fun u hu18 => ?_)
    show fk_V E _ K (0, 0) [(x0, .inr (0, [.ref a0, .ref n0, .ref m0, .ref i0, .ref r0, .ref p0])), (a0, .inr (1, [.ref a1, .ref a2, .ref a3, .int (nI tr)])), fk_ai E a1 20 len, fk_ai E a2 300 ev] 21 [(0, .ref x0), (1, .int (nI t)), (2, .int (nI i))] [.int (nI (ev (15 * t + i)))]
    refine fk_goto d_F_at_21 rfl ?_
    exact hret (0, 0) _ 25 _ () d_F_at_25 (trivial) (rfl)
set_option maxRecDepth 20000 in
set_option maxHeartbeats 4000000 in
theorem cX_atO (E : fk_E) (x0 : Nat) (a0 : Nat) (n0 : Nat) (m0 : Nat) (i0 : Nat) (r0 : Nat) (p0 : Nat) (a1 : Nat) (a2 : Nat) (a3 : Nat) (tr : Nat) (len : Nat → Nat) (ev : Nat → Nat) (t : Nat) (i : Nat) (ht : tr ≤ 20) (h3 : ∀ k, k < 20 → len k ≤ 15) (h1 : ¬ (t < tr ∧ i < len t)) (h2 : t < 2 ^ 31) (h4 : i < 2 ^ 31) : fk_C E fy_F_at prog_1_method_6_code 3 (some .int) 2 0 0 [.ref x0, .int (nI t), .int (nI i)] [(x0, .inr (0, [.ref a0, .ref n0, .ref m0, .ref i0, .ref r0, .ref p0])), (a0, .inr (1, [.ref a1, .ref a2, .ref a3, .int (nI tr)])), fk_ai E a1 20 len, fk_ai E a2 300 ev] (S := Unit) (fun _ => some (.int (nI 0 - 1))) (fun _ => True) (fun _ => [(x0, .inr (0, [.ref a0, .ref n0, .ref m0, .ref i0, .ref r0, .ref p0])), (a0, .inr (1, [.ref a1, .ref a2, .ref a3, .int (nI tr)])), fk_ai E a1 20 len, fk_ai E a2 300 ev]) := by
  refine fk_enterI (v := fun _ => (nI 0 - 1)) (by decide) (Nat.le_of_ble_eq_true rfl) (lv0 := [(0, .ref x0), (1, .int (nI t)), (2, .int (nI i))]) rfl ?_
  intro K hini hret
  refine fk_aload_n 0 d_F_at_0 rfl ?_
  refine fk_get 0 0 rfl rfl fh_F (Nat.le_of_ble_eq_true rfl) fw_134 rfl d_F_at_1 ?_
  refine fk_iload_n 1 d_F_at_4 rfl ?_
  refine fk_iload_n 2 d_F_at_5 rfl ?_
  refine fk_callV (q0 := 1) (As := [.int (nI t), .int (nI i)]) (rest := []) (is := [1, 2]) (ir := [0, 3]) (ip := [0, 2, 3, 1]) (wc := [(a0, .inr (1, [.ref a1, .ref a2, .ref a3, .int (nI tr)])), fk_ai E a1 20 len]) (wr := [(x0, .inr (0, [.ref a0, .ref n0, .ref m0, .ref i0, .ref r0, .ref p0])), fk_ai E a2 300 ev]) (w2 := fun _ => [(x0, .inr (0, [.ref a0, .ref n0, .ref m0, .ref i0, .ref r0, .ref p0])), (a0, .inr (1, [.ref a1, .ref a2, .ref a3, .int (nI tr)])), fk_ai E a1 20 len, fk_ai E a2 300 ev]) (cL_hasEvent E a0 a1 a2 a3 tr len t i (by first | omega | assumption) (by first | omega | assumption) (by first | omega | assumption) (by first | omega | assumption)) d_F_at_6 fz_Lg_hasEvent fw_207 rfl rfl fw_208 fw_209 ⟨Nat.le_of_ble_eq_true rfl, Nat.le_of_ble_eq_true rfl⟩ rfl (Nat.le_of_ble_eq_true rfl) ⟨Nat.zero_le _, Nat.zero_le _⟩ ⟨rfl, rfl, rfl, rfl, by decide, fun _ => rfl, rfl⟩ (fun u hu6 => ?_)
  show fk_V E _ K (0, 0) [(x0, .inr (0, [.ref a0, .ref n0, .ref m0, .ref i0, .ref r0, .ref p0])), (a0, .inr (1, [.ref a1, .ref a2, .ref a3, .int (nI tr)])), fk_ai E a1 20 len, fk_ai E a2 300 ev] 9 [(0, .ref x0), (1, .int (nI t)), (2, .int (nI i))] [.int (nI (Bool.toNat (decide (t < tr ∧ i < len t))))]
  refine fk_if_eqB (b := (decide (t < tr ∧ i < len t))) d_F_at_9 rfl (fun h9t => ?_) (fun h9f => ?_)
  · refine fk_iconst (v := nI 0 - 1) d_F_at_24 (by decide +kernel) ?_
    exact hret (0, 0) _ 25 _ () d_F_at_25 (trivial) (rfl)
  · exact absurd (of_decide_eq_true h9f) h1
set_option maxRecDepth 20000 in
set_option maxHeartbeats 4000000 in
theorem cX_atM (E : fk_E) (x0 : Nat) (a0 : Nat) (n0 : Nat) (m0 : Nat) (i0 : Nat) (r0 : Nat) (p0 : Nat) (a1 : Nat) (a2 : Nat) (a3 : Nat) (tr : Nat) (len : Nat → Nat) (ev : Nat → Nat) (t : Nat) (y : Int32) (ht : tr ≤ 20) (h2 : t < 2 ^ 31) (hx : y < 0) : fk_C E fy_F_at prog_1_method_6_code 3 (some .int) 2 0 0 [.ref x0, .int (nI t), .int y] [(x0, .inr (0, [.ref a0, .ref n0, .ref m0, .ref i0, .ref r0, .ref p0])), (a0, .inr (1, [.ref a1, .ref a2, .ref a3, .int (nI tr)])), fk_ai E a1 20 len, fk_ai E a2 300 ev] (S := Unit) (fun _ => some (.int (nI 0 - 1))) (fun _ => True) (fun _ => [(x0, .inr (0, [.ref a0, .ref n0, .ref m0, .ref i0, .ref r0, .ref p0])), (a0, .inr (1, [.ref a1, .ref a2, .ref a3, .int (nI tr)])), fk_ai E a1 20 len, fk_ai E a2 300 ev]) := by
  refine fk_enterI (v := fun _ => (nI 0 - 1)) (by decide) (Nat.le_of_ble_eq_true rfl) (lv0 := [(0, .ref x0), (1, .int (nI t)), (2, .int y)]) rfl ?_
  intro K hini hret
  refine fk_aload_n 0 d_F_at_0 rfl ?_
  refine fk_get 0 0 rfl rfl fh_F (Nat.le_of_ble_eq_true rfl) fw_134 rfl d_F_at_1 ?_
  refine fk_iload_n 1 d_F_at_4 rfl ?_
  refine fk_iload_n 2 d_F_at_5 rfl ?_
  refine fk_callV (q0 := 1) (As := [.int (nI t), .int y]) (rest := []) (is := [1, 2]) (ir := [0, 3]) (ip := [0, 2, 3, 1]) (wc := [(a0, .inr (1, [.ref a1, .ref a2, .ref a3, .int (nI tr)])), fk_ai E a1 20 len]) (wr := [(x0, .inr (0, [.ref a0, .ref n0, .ref m0, .ref i0, .ref r0, .ref p0])), fk_ai E a2 300 ev]) (w2 := fun _ => [(x0, .inr (0, [.ref a0, .ref n0, .ref m0, .ref i0, .ref r0, .ref p0])), (a0, .inr (1, [.ref a1, .ref a2, .ref a3, .int (nI tr)])), fk_ai E a1 20 len, fk_ai E a2 300 ev]) (cL_hasEventM E a0 a1 a2 a3 tr len t y (by first | omega | assumption) (by first | omega | assumption) (by first | omega | assumption)) d_F_at_6 fz_Lg_hasEvent fw_207 rfl rfl fw_208 fw_209 ⟨Nat.le_of_ble_eq_true rfl, Nat.le_of_ble_eq_true rfl⟩ rfl (Nat.le_of_ble_eq_true rfl) ⟨Nat.zero_le _, Nat.zero_le _⟩ ⟨rfl, rfl, rfl, rfl, by decide, fun _ => rfl, rfl⟩ (fun u hu6 => ?_)
  show fk_V E _ K (0, 0) [(x0, .inr (0, [.ref a0, .ref n0, .ref m0, .ref i0, .ref r0, .ref p0])), (a0, .inr (1, [.ref a1, .ref a2, .ref a3, .int (nI tr)])), fk_ai E a1 20 len, fk_ai E a2 300 ev] 9 [(0, .ref x0), (1, .int (nI t)), (2, .int y)] [.int (nI (Bool.toNat false))]
  refine fk_if_eqB (b := false) d_F_at_9 rfl (fun h9t => ?_) (fun h9f => ?_)
  · refine fk_iconst (v := nI 0 - 1) d_F_at_24 (by decide +kernel) ?_
    exact hret (0, 0) _ 25 _ () d_F_at_25 (trivial) (rfl)
  · exact absurd h9f (by decide)
set_option maxRecDepth 20000 in
set_option maxHeartbeats 4000000 in
theorem cX_atN (E : fk_E) (x0 : Nat) (a0 : Nat) (n0 : Nat) (m0 : Nat) (i0 : Nat) (r0 : Nat) (p0 : Nat) (a1 : Nat) (a2 : Nat) (a3 : Nat) (tr : Nat) (len : Nat → Nat) (ev : Nat → Nat) (x : Int32) (y : Int32) (hx : x < 0) : fk_C E fy_F_at prog_1_method_6_code 3 (some .int) 2 0 0 [.ref x0, .int x, .int y] [(x0, .inr (0, [.ref a0, .ref n0, .ref m0, .ref i0, .ref r0, .ref p0])), (a0, .inr (1, [.ref a1, .ref a2, .ref a3, .int (nI tr)])), fk_ai E a1 20 len, fk_ai E a2 300 ev] (S := Unit) (fun _ => some (.int (nI 0 - 1))) (fun _ => True) (fun _ => [(x0, .inr (0, [.ref a0, .ref n0, .ref m0, .ref i0, .ref r0, .ref p0])), (a0, .inr (1, [.ref a1, .ref a2, .ref a3, .int (nI tr)])), fk_ai E a1 20 len, fk_ai E a2 300 ev]) := by
  refine fk_enterI (v := fun _ => (nI 0 - 1)) (by decide) (Nat.le_of_ble_eq_true rfl) (lv0 := [(0, .ref x0), (1, .int x), (2, .int y)]) rfl ?_
  intro K hini hret
  refine fk_aload_n 0 d_F_at_0 rfl ?_
  refine fk_get 0 0 rfl rfl fh_F (Nat.le_of_ble_eq_true rfl) fw_134 rfl d_F_at_1 ?_
  refine fk_iload_n 1 d_F_at_4 rfl ?_
  refine fk_iload_n 2 d_F_at_5 rfl ?_
  refine fk_callV (q0 := 1) (As := [.int x, .int y]) (rest := []) (is := [1, 2]) (ir := [0, 3]) (ip := [0, 2, 3, 1]) (wc := [(a0, .inr (1, [.ref a1, .ref a2, .ref a3, .int (nI tr)])), fk_ai E a1 20 len]) (wr := [(x0, .inr (0, [.ref a0, .ref n0, .ref m0, .ref i0, .ref r0, .ref p0])), fk_ai E a2 300 ev]) (w2 := fun _ => [(x0, .inr (0, [.ref a0, .ref n0, .ref m0, .ref i0, .ref r0, .ref p0])), (a0, .inr (1, [.ref a1, .ref a2, .ref a3, .int (nI tr)])), fk_ai E a1 20 len, fk_ai E a2 300 ev]) (cL_hasEventN E a0 a1 a2 a3 tr len x y (by first | omega | assumption)) d_F_at_6 fz_Lg_hasEvent fw_207 rfl rfl fw_208 fw_209 ⟨Nat.le_of_ble_eq_true rfl, Nat.le_of_ble_eq_true rfl⟩ rfl (Nat.le_of_ble_eq_true rfl) ⟨Nat.zero_le _, Nat.zero_le _⟩ ⟨rfl, rfl, rfl, rfl, by decide, fun _ => rfl, rfl⟩ (fun u hu6 => ?_)
  show fk_V E _ K (0, 0) [(x0, .inr (0, [.ref a0, .ref n0, .ref m0, .ref i0, .ref r0, .ref p0])), (a0, .inr (1, [.ref a1, .ref a2, .ref a3, .int (nI tr)])), fk_ai E a1 20 len, fk_ai E a2 300 ev] 9 [(0, .ref x0), (1, .int x), (2, .int y)] [.int (nI (Bool.toNat false))]
  refine fk_if_eqB (b := false) d_F_at_9 rfl (fun h9t => ?_) (fun h9f => ?_)
  · refine fk_iconst (v := nI 0 - 1) d_F_at_24 (by decide +kernel) ?_
    exact hret (0, 0) _ 25 _ () d_F_at_25 (trivial) (rfl)
  · exact absurd h9f (by decide)
theorem d_F_relation_0 : decode prog_1_method_7_code 0 = .ok (.iload_n 1, 1) := by decide +kernel
theorem d_F_relation_1 : decode prog_1_method_7_code 1 = .ok (.invokestatic 73, 3) := by decide +kernel
theorem d_F_relation_4 : decode prog_1_method_7_code 4 = .ok (.ifCond .eq 10, 3) := by decide +kernel
theorem d_F_relation_7 : decode prog_1_method_7_code 7 = .ok (.iload_n 2, 1) := by decide +kernel
theorem d_F_relation_8 : decode prog_1_method_7_code 8 = .ok (.invokestatic 73, 3) := by decide +kernel
theorem d_F_relation_11 : decode prog_1_method_7_code 11 = .ok (.ifCond .ne 5, 3) := by decide +kernel
theorem d_F_relation_14 : decode prog_1_method_7_code 14 = .ok (.iconst (-1), 1) := by decide +kernel
theorem d_F_relation_15 : decode prog_1_method_7_code 15 = .ok (.ireturn, 1) := by decide +kernel
theorem d_F_relation_16 : decode prog_1_method_7_code 16 = .ok (.aload_n 0, 1) := by decide +kernel
theorem d_F_relation_17 : decode prog_1_method_7_code 17 = .ok (.getfield 12, 3) := by decide +kernel
theorem d_F_relation_20 : decode prog_1_method_7_code 20 = .ok (.iload_n 1, 1) := by decide +kernel
theorem d_F_relation_21 : decode prog_1_method_7_code 21 = .ok (.iload_n 2, 1) := by decide +kernel
theorem d_F_relation_22 : decode prog_1_method_7_code 22 = .ok (.invokevirtual 76, 3) := by decide +kernel
theorem d_F_relation_25 : decode prog_1_method_7_code 25 = .ok (.ifCond .eq 7, 3) := by decide +kernel
theorem d_F_relation_28 : decode prog_1_method_7_code 28 = .ok (.iconst 1, 1) := by decide +kernel
theorem d_F_relation_29 : decode prog_1_method_7_code 29 = .ok (.goto 4, 3) := by decide +kernel
theorem d_F_relation_32 : decode prog_1_method_7_code 32 = .ok (.iconst 0, 1) := by decide +kernel
theorem d_F_relation_33 : decode prog_1_method_7_code 33 = .ok (.istore_n 3, 1) := by decide +kernel
theorem d_F_relation_34 : decode prog_1_method_7_code 34 = .ok (.aload_n 0, 1) := by decide +kernel
theorem d_F_relation_35 : decode prog_1_method_7_code 35 = .ok (.getfield 12, 3) := by decide +kernel
theorem d_F_relation_38 : decode prog_1_method_7_code 38 = .ok (.iload_n 2, 1) := by decide +kernel
theorem d_F_relation_39 : decode prog_1_method_7_code 39 = .ok (.iload_n 1, 1) := by decide +kernel
theorem d_F_relation_40 : decode prog_1_method_7_code 40 = .ok (.invokevirtual 76, 3) := by decide +kernel
theorem d_F_relation_43 : decode prog_1_method_7_code 43 = .ok (.ifCond .eq 7, 3) := by decide +kernel
theorem d_F_relation_46 : decode prog_1_method_7_code 46 = .ok (.iconst 2, 1) := by decide +kernel
theorem d_F_relation_47 : decode prog_1_method_7_code 47 = .ok (.goto 4, 3) := by decide +kernel
theorem d_F_relation_50 : decode prog_1_method_7_code 50 = .ok (.iconst 0, 1) := by decide +kernel
theorem d_F_relation_51 : decode prog_1_method_7_code 51 = .ok (.istore 4, 2) := by decide +kernel
theorem d_F_relation_53 : decode prog_1_method_7_code 53 = .ok (.iload_n 3, 1) := by decide +kernel
theorem d_F_relation_54 : decode prog_1_method_7_code 54 = .ok (.iload 4, 2) := by decide +kernel
theorem d_F_relation_56 : decode prog_1_method_7_code 56 = .ok (.iadd, 1) := by decide +kernel
theorem d_F_relation_57 : decode prog_1_method_7_code 57 = .ok (.ireturn, 1) := by decide +kernel
set_option maxRecDepth 20000 in
set_option maxHeartbeats 4000000 in
theorem cX_relation (E : fk_E) (x0 : Nat) (a0 : Nat) (n0 : Nat) (m0 : Nat) (i0 : Nat) (r0 : Nat) (p0 : Nat) (a1 : Nat) (a2 : Nat) (a3 : Nat) (tr : Nat) (fo : Nat → Nat) (a : Nat) (b : Nat) (ha : a < 7) (hb : b < 7) (hf : ∀ k, k < 7 → fo k < 128) : fk_C E fy_F_relation prog_1_method_7_code 5 (some .int) 2 0 0 [.ref x0, .int (nI a), .int (nI b)] [(x0, .inr (0, [.ref a0, .ref n0, .ref m0, .ref i0, .ref r0, .ref p0])), (a0, .inr (1, [.ref a1, .ref a2, .ref a3, .int (nI tr)])), fk_ai E a3 7 fo] (S := Unit) (fun _ => some (.int (nI (Bool.toNat (Nat.testBit (fo a) b) + 2 * Bool.toNat (Nat.testBit (fo b) a))))) (fun _ => True) (fun _ => [(x0, .inr (0, [.ref a0, .ref n0, .ref m0, .ref i0, .ref r0, .ref p0])), (a0, .inr (1, [.ref a1, .ref a2, .ref a3, .int (nI tr)])), fk_ai E a3 7 fo]) := by
  refine fk_enterI (v := fun _ => (nI (Bool.toNat (Nat.testBit (fo a) b) + 2 * Bool.toNat (Nat.testBit (fo b) a)))) (by decide) (Nat.le_of_ble_eq_true rfl) (lv0 := [(0, .ref x0), (1, .int (nI a)), (2, .int (nI b))]) rfl ?_
  intro K hini hret
  refine fk_iload_n 1 d_F_relation_0 rfl ?_
  refine fk_callS (As := [.int (nI a)]) (rest := []) (is := []) (ir := [0, 1, 2]) (ip := [0, 1, 2]) (wc := []) (wr := [(x0, .inr (0, [.ref a0, .ref n0, .ref m0, .ref i0, .ref r0, .ref p0])), (a0, .inr (1, [.ref a1, .ref a2, .ref a3, .int (nI tr)])), fk_ai E a3 7 fo]) (w2 := fun _ => [(x0, .inr (0, [.ref a0, .ref n0, .ref m0, .ref i0, .ref r0, .ref p0])), (a0, .inr (1, [.ref a1, .ref a2, .ref a3, .int (nI tr)])), fk_ai E a3 7 fo]) (cF_isActivity E a (by first | omega | assumption)) d_F_relation_1 fz_F_isActivity fw_217 fw_174 ⟨Nat.le_of_ble_eq_true rfl, Nat.le_of_ble_eq_true rfl⟩ rfl (Nat.le_of_ble_eq_true rfl) ⟨Nat.zero_le _, Nat.zero_le _⟩ ⟨rfl, rfl, rfl, rfl, by decide, fun _ => rfl, rfl⟩ (fun u hu1 => ?_)
  show fk_V E _ K (0, 0) [(x0, .inr (0, [.ref a0, .ref n0, .ref m0, .ref i0, .ref r0, .ref p0])), (a0, .inr (1, [.ref a1, .ref a2, .ref a3, .int (nI tr)])), fk_ai E a3 7 fo] 4 [(0, .ref x0), (1, .int (nI a)), (2, .int (nI b))] [.int (nI (Bool.toNat (decide (a < 7))))]
  refine fk_if_eqB (b := (decide (a < 7))) d_F_relation_4 rfl (fun h4t => ?_) (fun h4f => ?_)
  · exact absurd (of_decide_eq_false h4t) (by omega)
  · refine fk_iload_n 2 d_F_relation_7 rfl ?_
    refine fk_callS (As := [.int (nI b)]) (rest := []) (is := []) (ir := [0, 1, 2]) (ip := [0, 1, 2]) (wc := []) (wr := [(x0, .inr (0, [.ref a0, .ref n0, .ref m0, .ref i0, .ref r0, .ref p0])), (a0, .inr (1, [.ref a1, .ref a2, .ref a3, .int (nI tr)])), fk_ai E a3 7 fo]) (w2 := fun _ => [(x0, .inr (0, [.ref a0, .ref n0, .ref m0, .ref i0, .ref r0, .ref p0])), (a0, .inr (1, [.ref a1, .ref a2, .ref a3, .int (nI tr)])), fk_ai E a3 7 fo]) (cF_isActivity E b (by first | omega | assumption)) d_F_relation_8 fz_F_isActivity fw_217 fw_174 ⟨Nat.le_of_ble_eq_true rfl, Nat.le_of_ble_eq_true rfl⟩ rfl (Nat.le_of_ble_eq_true rfl) ⟨Nat.zero_le _, Nat.zero_le _⟩ ⟨rfl, rfl, rfl, rfl, by decide, fun _ => rfl, rfl⟩ (fun u hu8 => ?_)
    show fk_V E _ K (0, 0) [(x0, .inr (0, [.ref a0, .ref n0, .ref m0, .ref i0, .ref r0, .ref p0])), (a0, .inr (1, [.ref a1, .ref a2, .ref a3, .int (nI tr)])), fk_ai E a3 7 fo] 11 [(0, .ref x0), (1, .int (nI a)), (2, .int (nI b))] [.int (nI (Bool.toNat (decide (b < 7))))]
    refine fk_if_neB (b := (decide (b < 7))) d_F_relation_11 rfl (fun h11t => ?_) (fun h11f => ?_)
    · refine fk_aload_n 0 d_F_relation_16 rfl ?_
      refine fk_get 0 0 rfl rfl fh_F (Nat.le_of_ble_eq_true rfl) fw_134 rfl d_F_relation_17 ?_
      refine fk_iload_n 1 d_F_relation_20 rfl ?_
      refine fk_iload_n 2 d_F_relation_21 rfl ?_
      refine fk_callV (q0 := 1) (As := [.int (nI a), .int (nI b)]) (rest := []) (is := [1, 2]) (ir := [0]) (ip := [0, 1, 2]) (wc := [(a0, .inr (1, [.ref a1, .ref a2, .ref a3, .int (nI tr)])), fk_ai E a3 7 fo]) (wr := [(x0, .inr (0, [.ref a0, .ref n0, .ref m0, .ref i0, .ref r0, .ref p0]))]) (w2 := fun _ => [(x0, .inr (0, [.ref a0, .ref n0, .ref m0, .ref i0, .ref r0, .ref p0])), (a0, .inr (1, [.ref a1, .ref a2, .ref a3, .int (nI tr)])), fk_ai E a3 7 fo]) (cL_isFollowed E a0 a1 a2 a3 tr fo a b (by first | omega | assumption) (by first | omega | assumption) (by first | omega | assumption)) d_F_relation_22 fz_Lg_isFollowed fw_218 rfl rfl fw_219 fw_220 ⟨Nat.le_of_ble_eq_true rfl, Nat.le_of_ble_eq_true rfl⟩ rfl (Nat.le_of_ble_eq_true rfl) ⟨Nat.zero_le _, Nat.zero_le _⟩ ⟨rfl, rfl, rfl, rfl, by decide, fun _ => rfl, rfl⟩ (fun u hu22 => ?_)
      show fk_V E _ K (0, 0) [(x0, .inr (0, [.ref a0, .ref n0, .ref m0, .ref i0, .ref r0, .ref p0])), (a0, .inr (1, [.ref a1, .ref a2, .ref a3, .int (nI tr)])), fk_ai E a3 7 fo] 25 [(0, .ref x0), (1, .int (nI a)), (2, .int (nI b))] [.int (nI (Bool.toNat (Nat.testBit (fo a) b)))]
      refine fk_if_eqB (b := (Nat.testBit (fo a) b)) d_F_relation_25 rfl (fun h25t => ?_) (fun h25f => ?_)
      · refine fk_iconst (v := nI 0) d_F_relation_32 (by decide +kernel) ?_
        refine fk_istore_n (lv' := [(0, .ref x0), (1, .int (nI a)), (2, .int (nI b)), (3, .int (nI 0))]) d_F_relation_33 rfl (Nat.le_of_ble_eq_true rfl) [1, 2, 3, 0] rfl ?_
        refine fk_aload_n 0 d_F_relation_34 rfl ?_
        refine fk_get 0 0 rfl rfl fh_F (Nat.le_of_ble_eq_true rfl) fw_134 rfl d_F_relation_35 ?_
        refine fk_iload_n 2 d_F_relation_38 rfl ?_
        refine fk_iload_n 1 d_F_relation_39 rfl ?_
        refine fk_callV (q0 := 1) (As := [.int (nI b), .int (nI a)]) (rest := []) (is := [1, 2]) (ir := [0]) (ip := [0, 1, 2]) (wc := [(a0, .inr (1, [.ref a1, .ref a2, .ref a3, .int (nI tr)])), fk_ai E a3 7 fo]) (wr := [(x0, .inr (0, [.ref a0, .ref n0, .ref m0, .ref i0, .ref r0, .ref p0]))]) (w2 := fun _ => [(x0, .inr (0, [.ref a0, .ref n0, .ref m0, .ref i0, .ref r0, .ref p0])), (a0, .inr (1, [.ref a1, .ref a2, .ref a3, .int (nI tr)])), fk_ai E a3 7 fo]) (cL_isFollowed E a0 a1 a2 a3 tr fo b a (by first | omega | assumption) (by first | omega | assumption) (by first | omega | assumption)) d_F_relation_40 fz_Lg_isFollowed fw_218 rfl rfl fw_219 fw_220 ⟨Nat.le_of_ble_eq_true rfl, Nat.le_of_ble_eq_true rfl⟩ rfl (Nat.le_of_ble_eq_true rfl) ⟨Nat.zero_le _, Nat.zero_le _⟩ ⟨rfl, rfl, rfl, rfl, by decide, fun _ => rfl, rfl⟩ (fun u hu40 => ?_)
        show fk_V E _ K (0, 0) [(x0, .inr (0, [.ref a0, .ref n0, .ref m0, .ref i0, .ref r0, .ref p0])), (a0, .inr (1, [.ref a1, .ref a2, .ref a3, .int (nI tr)])), fk_ai E a3 7 fo] 43 [(0, .ref x0), (1, .int (nI a)), (2, .int (nI b)), (3, .int (nI 0))] [.int (nI (Bool.toNat (Nat.testBit (fo b) a)))]
        refine fk_if_eqB (b := (Nat.testBit (fo b) a)) d_F_relation_43 rfl (fun h43t => ?_) (fun h43f => ?_)
        · refine fk_iconst (v := nI 0) d_F_relation_50 (by decide +kernel) ?_
          refine fk_istore (lv' := [(0, .ref x0), (1, .int (nI a)), (2, .int (nI b)), (3, .int (nI 0)), (4, .int (nI 0))]) d_F_relation_51 (Nat.le_of_ble_eq_true rfl) [1, 2, 3, 4, 0] rfl ?_
          refine fk_iload_n 3 d_F_relation_53 rfl ?_
          refine fk_iload 4 d_F_relation_54 rfl ?_
          refine fk_iadd (a := 0) (b := 0) d_F_relation_56 ?_
          refine fk_top (show nI (0 + 0) = nI 0 by decide +kernel) ?_
          refine fk_top (congrArg nI (show 0 = Bool.toNat (Nat.testBit (fo a) b) + 2 * Bool.toNat (Nat.testBit (fo b) a) from by rw [h25t, h43t]; rfl)) ?_
          exact hret (0, 0) _ 57 _ () d_F_relation_57 (trivial) (rfl)
        · refine fk_iconst (v := nI 2) d_F_relation_46 (by decide +kernel) ?_
          refine fk_goto d_F_relation_47 rfl ?_
          refine fk_istore (lv' := [(0, .ref x0), (1, .int (nI a)), (2, .int (nI b)), (3, .int (nI 0)), (4, .int (nI 2))]) d_F_relation_51 (Nat.le_of_ble_eq_true rfl) [1, 2, 3, 4, 0] rfl ?_
          refine fk_iload_n 3 d_F_relation_53 rfl ?_
          refine fk_iload 4 d_F_relation_54 rfl ?_
          refine fk_iadd (a := 0) (b := 2) d_F_relation_56 ?_
          refine fk_top (show nI (0 + 2) = nI 2 by decide +kernel) ?_
          refine fk_top (congrArg nI (show 2 = Bool.toNat (Nat.testBit (fo a) b) + 2 * Bool.toNat (Nat.testBit (fo b) a) from by rw [h25t, h43f]; rfl)) ?_
          exact hret (0, 0) _ 57 _ () d_F_relation_57 (trivial) (rfl)
      · refine fk_iconst (v := nI 1) d_F_relation_28 (by decide +kernel) ?_
        refine fk_goto d_F_relation_29 rfl ?_
        refine fk_istore_n (lv' := [(0, .ref x0), (1, .int (nI a)), (2, .int (nI b)), (3, .int (nI 1))]) d_F_relation_33 rfl (Nat.le_of_ble_eq_true rfl) [1, 2, 3, 0] rfl ?_
        refine fk_aload_n 0 d_F_relation_34 rfl ?_
        refine fk_get 0 0 rfl rfl fh_F (Nat.le_of_ble_eq_true rfl) fw_134 rfl d_F_relation_35 ?_
        refine fk_iload_n 2 d_F_relation_38 rfl ?_
        refine fk_iload_n 1 d_F_relation_39 rfl ?_
        refine fk_callV (q0 := 1) (As := [.int (nI b), .int (nI a)]) (rest := []) (is := [1, 2]) (ir := [0]) (ip := [0, 1, 2]) (wc := [(a0, .inr (1, [.ref a1, .ref a2, .ref a3, .int (nI tr)])), fk_ai E a3 7 fo]) (wr := [(x0, .inr (0, [.ref a0, .ref n0, .ref m0, .ref i0, .ref r0, .ref p0]))]) (w2 := fun _ => [(x0, .inr (0, [.ref a0, .ref n0, .ref m0, .ref i0, .ref r0, .ref p0])), (a0, .inr (1, [.ref a1, .ref a2, .ref a3, .int (nI tr)])), fk_ai E a3 7 fo]) (cL_isFollowed E a0 a1 a2 a3 tr fo b a (by first | omega | assumption) (by first | omega | assumption) (by first | omega | assumption)) d_F_relation_40 fz_Lg_isFollowed fw_218 rfl rfl fw_219 fw_220 ⟨Nat.le_of_ble_eq_true rfl, Nat.le_of_ble_eq_true rfl⟩ rfl (Nat.le_of_ble_eq_true rfl) ⟨Nat.zero_le _, Nat.zero_le _⟩ ⟨rfl, rfl, rfl, rfl, by decide, fun _ => rfl, rfl⟩ (fun u hu40 => ?_)
        show fk_V E _ K (0, 0) [(x0, .inr (0, [.ref a0, .ref n0, .ref m0, .ref i0, .ref r0, .ref p0])), (a0, .inr (1, [.ref a1, .ref a2, .ref a3, .int (nI tr)])), fk_ai E a3 7 fo] 43 [(0, .ref x0), (1, .int (nI a)), (2, .int (nI b)), (3, .int (nI 1))] [.int (nI (Bool.toNat (Nat.testBit (fo b) a)))]
        refine fk_if_eqB (b := (Nat.testBit (fo b) a)) d_F_relation_43 rfl (fun h43t => ?_) (fun h43f => ?_)
        · refine fk_iconst (v := nI 0) d_F_relation_50 (by decide +kernel) ?_
          refine fk_istore (lv' := [(0, .ref x0), (1, .int (nI a)), (2, .int (nI b)), (3, .int (nI 1)), (4, .int (nI 0))]) d_F_relation_51 (Nat.le_of_ble_eq_true rfl) [1, 2, 3, 4, 0] rfl ?_
          refine fk_iload_n 3 d_F_relation_53 rfl ?_
          refine fk_iload 4 d_F_relation_54 rfl ?_
          refine fk_iadd (a := 1) (b := 0) d_F_relation_56 ?_
          refine fk_top (show nI (1 + 0) = nI 1 by decide +kernel) ?_
          refine fk_top (congrArg nI (show 1 = Bool.toNat (Nat.testBit (fo a) b) + 2 * Bool.toNat (Nat.testBit (fo b) a) from by rw [h25f, h43t]; rfl)) ?_
          exact hret (0, 0) _ 57 _ () d_F_relation_57 (trivial) (rfl)
        · refine fk_iconst (v := nI 2) d_F_relation_46 (by decide +kernel) ?_
          refine fk_goto d_F_relation_47 rfl ?_
          refine fk_istore (lv' := [(0, .ref x0), (1, .int (nI a)), (2, .int (nI b)), (3, .int (nI 1)), (4, .int (nI 2))]) d_F_relation_51 (Nat.le_of_ble_eq_true rfl) [1, 2, 3, 4, 0] rfl ?_
          refine fk_iload_n 3 d_F_relation_53 rfl ?_
          refine fk_iload 4 d_F_relation_54 rfl ?_
          refine fk_iadd (a := 1) (b := 2) d_F_relation_56 ?_
          refine fk_top (show nI (1 + 2) = nI 3 by decide +kernel) ?_
          refine fk_top (congrArg nI (show 3 = Bool.toNat (Nat.testBit (fo a) b) + 2 * Bool.toNat (Nat.testBit (fo b) a) from by rw [h25f, h43f]; rfl)) ?_
          exact hret (0, 0) _ 57 _ () d_F_relation_57 (trivial) (rfl)
    · exact absurd (of_decide_eq_false h11f) (by omega)
set_option maxRecDepth 20000 in
set_option maxHeartbeats 4000000 in
theorem cX_relationO (E : fk_E) (x0 : Nat) (a0 : Nat) (n0 : Nat) (m0 : Nat) (i0 : Nat) (r0 : Nat) (p0 : Nat) (a1 : Nat) (a2 : Nat) (a3 : Nat) (tr : Nat) (fo : Nat → Nat) (a : Nat) (b : Nat) (h : 7 ≤ a ∨ 7 ≤ b) (ha : a < 2 ^ 31) (hb : b < 2 ^ 31) : fk_C E fy_F_relation prog_1_method_7_code 5 (some .int) 2 0 0 [.ref x0, .int (nI a), .int (nI b)] [(x0, .inr (0, [.ref a0, .ref n0, .ref m0, .ref i0, .ref r0, .ref p0])), (a0, .inr (1, [.ref a1, .ref a2, .ref a3, .int (nI tr)])), fk_ai E a3 7 fo] (S := Unit) (fun _ => some (.int (nI 0 - 1))) (fun _ => True) (fun _ => [(x0, .inr (0, [.ref a0, .ref n0, .ref m0, .ref i0, .ref r0, .ref p0])), (a0, .inr (1, [.ref a1, .ref a2, .ref a3, .int (nI tr)])), fk_ai E a3 7 fo]) := by
  refine fk_enterI (v := fun _ => (nI 0 - 1)) (by decide) (Nat.le_of_ble_eq_true rfl) (lv0 := [(0, .ref x0), (1, .int (nI a)), (2, .int (nI b))]) rfl ?_
  intro K hini hret
  refine fk_iload_n 1 d_F_relation_0 rfl ?_
  refine fk_callS (As := [.int (nI a)]) (rest := []) (is := []) (ir := [0, 1, 2]) (ip := [0, 1, 2]) (wc := []) (wr := [(x0, .inr (0, [.ref a0, .ref n0, .ref m0, .ref i0, .ref r0, .ref p0])), (a0, .inr (1, [.ref a1, .ref a2, .ref a3, .int (nI tr)])), fk_ai E a3 7 fo]) (w2 := fun _ => [(x0, .inr (0, [.ref a0, .ref n0, .ref m0, .ref i0, .ref r0, .ref p0])), (a0, .inr (1, [.ref a1, .ref a2, .ref a3, .int (nI tr)])), fk_ai E a3 7 fo]) (cF_isActivity E a (by first | omega | assumption)) d_F_relation_1 fz_F_isActivity fw_217 fw_174 ⟨Nat.le_of_ble_eq_true rfl, Nat.le_of_ble_eq_true rfl⟩ rfl (Nat.le_of_ble_eq_true rfl) ⟨Nat.zero_le _, Nat.zero_le _⟩ ⟨rfl, rfl, rfl, rfl, by decide, fun _ => rfl, rfl⟩ (fun u hu1 => ?_)
  show fk_V E _ K (0, 0) [(x0, .inr (0, [.ref a0, .ref n0, .ref m0, .ref i0, .ref r0, .ref p0])), (a0, .inr (1, [.ref a1, .ref a2, .ref a3, .int (nI tr)])), fk_ai E a3 7 fo] 4 [(0, .ref x0), (1, .int (nI a)), (2, .int (nI b))] [.int (nI (Bool.toNat (decide (a < 7))))]
  refine fk_if_eqB (b := (decide (a < 7))) d_F_relation_4 rfl (fun h4t => ?_) (fun h4f => ?_)
  · refine fk_iconst (v := nI 0 - 1) d_F_relation_14 (by decide +kernel) ?_
    exact hret (0, 0) _ 15 _ () d_F_relation_15 (trivial) (rfl)
  · refine fk_iload_n 2 d_F_relation_7 rfl ?_
    refine fk_callS (As := [.int (nI b)]) (rest := []) (is := []) (ir := [0, 1, 2]) (ip := [0, 1, 2]) (wc := []) (wr := [(x0, .inr (0, [.ref a0, .ref n0, .ref m0, .ref i0, .ref r0, .ref p0])), (a0, .inr (1, [.ref a1, .ref a2, .ref a3, .int (nI tr)])), fk_ai E a3 7 fo]) (w2 := fun _ => [(x0, .inr (0, [.ref a0, .ref n0, .ref m0, .ref i0, .ref r0, .ref p0])), (a0, .inr (1, [.ref a1, .ref a2, .ref a3, .int (nI tr)])), fk_ai E a3 7 fo]) (cF_isActivity E b (by first | omega | assumption)) d_F_relation_8 fz_F_isActivity fw_217 fw_174 ⟨Nat.le_of_ble_eq_true rfl, Nat.le_of_ble_eq_true rfl⟩ rfl (Nat.le_of_ble_eq_true rfl) ⟨Nat.zero_le _, Nat.zero_le _⟩ ⟨rfl, rfl, rfl, rfl, by decide, fun _ => rfl, rfl⟩ (fun u hu8 => ?_)
    show fk_V E _ K (0, 0) [(x0, .inr (0, [.ref a0, .ref n0, .ref m0, .ref i0, .ref r0, .ref p0])), (a0, .inr (1, [.ref a1, .ref a2, .ref a3, .int (nI tr)])), fk_ai E a3 7 fo] 11 [(0, .ref x0), (1, .int (nI a)), (2, .int (nI b))] [.int (nI (Bool.toNat (decide (b < 7))))]
    refine fk_if_neB (b := (decide (b < 7))) d_F_relation_11 rfl (fun h11t => ?_) (fun h11f => ?_)
    · have q1 := of_decide_eq_true h4f
      have q2 := of_decide_eq_true h11t
      omega
    · refine fk_iconst (v := nI 0 - 1) d_F_relation_14 (by decide +kernel) ?_
      exact hret (0, 0) _ 15 _ () d_F_relation_15 (trivial) (rfl)
set_option maxRecDepth 20000 in
set_option maxHeartbeats 4000000 in
theorem cX_relationM (E : fk_E) (x0 : Nat) (a0 : Nat) (n0 : Nat) (m0 : Nat) (i0 : Nat) (r0 : Nat) (p0 : Nat) (a1 : Nat) (a2 : Nat) (a3 : Nat) (tr : Nat) (fo : Nat → Nat) (x : Int32) (y : Int32) (hx : x < 0) : fk_C E fy_F_relation prog_1_method_7_code 5 (some .int) 2 0 0 [.ref x0, .int x, .int y] [(x0, .inr (0, [.ref a0, .ref n0, .ref m0, .ref i0, .ref r0, .ref p0])), (a0, .inr (1, [.ref a1, .ref a2, .ref a3, .int (nI tr)])), fk_ai E a3 7 fo] (S := Unit) (fun _ => some (.int (nI 0 - 1))) (fun _ => True) (fun _ => [(x0, .inr (0, [.ref a0, .ref n0, .ref m0, .ref i0, .ref r0, .ref p0])), (a0, .inr (1, [.ref a1, .ref a2, .ref a3, .int (nI tr)])), fk_ai E a3 7 fo]) := by
  refine fk_enterI (v := fun _ => (nI 0 - 1)) (by decide) (Nat.le_of_ble_eq_true rfl) (lv0 := [(0, .ref x0), (1, .int x), (2, .int y)]) rfl ?_
  intro K hini hret
  refine fk_iload_n 1 d_F_relation_0 rfl ?_
  refine fk_callS (As := [.int x]) (rest := []) (is := []) (ir := [0, 1, 2]) (ip := [0, 1, 2]) (wc := []) (wr := [(x0, .inr (0, [.ref a0, .ref n0, .ref m0, .ref i0, .ref r0, .ref p0])), (a0, .inr (1, [.ref a1, .ref a2, .ref a3, .int (nI tr)])), fk_ai E a3 7 fo]) (w2 := fun _ => [(x0, .inr (0, [.ref a0, .ref n0, .ref m0, .ref i0, .ref r0, .ref p0])), (a0, .inr (1, [.ref a1, .ref a2, .ref a3, .int (nI tr)])), fk_ai E a3 7 fo]) (cF_isActivityM E x (by first | omega | assumption)) d_F_relation_1 fz_F_isActivity fw_217 fw_174 ⟨Nat.le_of_ble_eq_true rfl, Nat.le_of_ble_eq_true rfl⟩ rfl (Nat.le_of_ble_eq_true rfl) ⟨Nat.zero_le _, Nat.zero_le _⟩ ⟨rfl, rfl, rfl, rfl, by decide, fun _ => rfl, rfl⟩ (fun u hu1 => ?_)
  show fk_V E _ K (0, 0) [(x0, .inr (0, [.ref a0, .ref n0, .ref m0, .ref i0, .ref r0, .ref p0])), (a0, .inr (1, [.ref a1, .ref a2, .ref a3, .int (nI tr)])), fk_ai E a3 7 fo] 4 [(0, .ref x0), (1, .int x), (2, .int y)] [.int (nI (Bool.toNat false))]
  refine fk_if_eqB (b := false) d_F_relation_4 rfl (fun h4t => ?_) (fun h4f => ?_)
  · refine fk_iconst (v := nI 0 - 1) d_F_relation_14 (by decide +kernel) ?_
    exact hret (0, 0) _ 15 _ () d_F_relation_15 (trivial) (rfl)
  · exact absurd h4f (by decide)
set_option maxRecDepth 20000 in
set_option maxHeartbeats 4000000 in
theorem cX_relationN (E : fk_E) (x0 : Nat) (a0 : Nat) (n0 : Nat) (m0 : Nat) (i0 : Nat) (r0 : Nat) (p0 : Nat) (a1 : Nat) (a2 : Nat) (a3 : Nat) (tr : Nat) (fo : Nat → Nat) (a : Nat) (y : Int32) (ha : a < 2 ^ 31) (hx : y < 0) : fk_C E fy_F_relation prog_1_method_7_code 5 (some .int) 2 0 0 [.ref x0, .int (nI a), .int y] [(x0, .inr (0, [.ref a0, .ref n0, .ref m0, .ref i0, .ref r0, .ref p0])), (a0, .inr (1, [.ref a1, .ref a2, .ref a3, .int (nI tr)])), fk_ai E a3 7 fo] (S := Unit) (fun _ => some (.int (nI 0 - 1))) (fun _ => True) (fun _ => [(x0, .inr (0, [.ref a0, .ref n0, .ref m0, .ref i0, .ref r0, .ref p0])), (a0, .inr (1, [.ref a1, .ref a2, .ref a3, .int (nI tr)])), fk_ai E a3 7 fo]) := by
  refine fk_enterI (v := fun _ => (nI 0 - 1)) (by decide) (Nat.le_of_ble_eq_true rfl) (lv0 := [(0, .ref x0), (1, .int (nI a)), (2, .int y)]) rfl ?_
  intro K hini hret
  refine fk_iload_n 1 d_F_relation_0 rfl ?_
  refine fk_callS (As := [.int (nI a)]) (rest := []) (is := []) (ir := [0, 1, 2]) (ip := [0, 1, 2]) (wc := []) (wr := [(x0, .inr (0, [.ref a0, .ref n0, .ref m0, .ref i0, .ref r0, .ref p0])), (a0, .inr (1, [.ref a1, .ref a2, .ref a3, .int (nI tr)])), fk_ai E a3 7 fo]) (w2 := fun _ => [(x0, .inr (0, [.ref a0, .ref n0, .ref m0, .ref i0, .ref r0, .ref p0])), (a0, .inr (1, [.ref a1, .ref a2, .ref a3, .int (nI tr)])), fk_ai E a3 7 fo]) (cF_isActivity E a (by first | omega | assumption)) d_F_relation_1 fz_F_isActivity fw_217 fw_174 ⟨Nat.le_of_ble_eq_true rfl, Nat.le_of_ble_eq_true rfl⟩ rfl (Nat.le_of_ble_eq_true rfl) ⟨Nat.zero_le _, Nat.zero_le _⟩ ⟨rfl, rfl, rfl, rfl, by decide, fun _ => rfl, rfl⟩ (fun u hu1 => ?_)
  show fk_V E _ K (0, 0) [(x0, .inr (0, [.ref a0, .ref n0, .ref m0, .ref i0, .ref r0, .ref p0])), (a0, .inr (1, [.ref a1, .ref a2, .ref a3, .int (nI tr)])), fk_ai E a3 7 fo] 4 [(0, .ref x0), (1, .int (nI a)), (2, .int y)] [.int (nI (Bool.toNat (decide (a < 7))))]
  refine fk_if_eqB (b := (decide (a < 7))) d_F_relation_4 rfl (fun h4t => ?_) (fun h4f => ?_)
  · refine fk_iconst (v := nI 0 - 1) d_F_relation_14 (by decide +kernel) ?_
    exact hret (0, 0) _ 15 _ () d_F_relation_15 (trivial) (rfl)
  · refine fk_iload_n 2 d_F_relation_7 rfl ?_
    refine fk_callS (As := [.int y]) (rest := []) (is := []) (ir := [0, 1, 2]) (ip := [0, 1, 2]) (wc := []) (wr := [(x0, .inr (0, [.ref a0, .ref n0, .ref m0, .ref i0, .ref r0, .ref p0])), (a0, .inr (1, [.ref a1, .ref a2, .ref a3, .int (nI tr)])), fk_ai E a3 7 fo]) (w2 := fun _ => [(x0, .inr (0, [.ref a0, .ref n0, .ref m0, .ref i0, .ref r0, .ref p0])), (a0, .inr (1, [.ref a1, .ref a2, .ref a3, .int (nI tr)])), fk_ai E a3 7 fo]) (cF_isActivityM E y (by first | omega | assumption)) d_F_relation_8 fz_F_isActivity fw_217 fw_174 ⟨Nat.le_of_ble_eq_true rfl, Nat.le_of_ble_eq_true rfl⟩ rfl (Nat.le_of_ble_eq_true rfl) ⟨Nat.zero_le _, Nat.zero_le _⟩ ⟨rfl, rfl, rfl, rfl, by decide, fun _ => rfl, rfl⟩ (fun u hu8 => ?_)
    show fk_V E _ K (0, 0) [(x0, .inr (0, [.ref a0, .ref n0, .ref m0, .ref i0, .ref r0, .ref p0])), (a0, .inr (1, [.ref a1, .ref a2, .ref a3, .int (nI tr)])), fk_ai E a3 7 fo] 11 [(0, .ref x0), (1, .int (nI a)), (2, .int y)] [.int (nI (Bool.toNat false))]
    refine fk_if_neB (b := false) d_F_relation_11 rfl (fun h11t => ?_) (fun h11f => ?_)
    · exact absurd h11t (by decide)
    · refine fk_iconst (v := nI 0 - 1) d_F_relation_14 (by decide +kernel) ?_
      exact hret (0, 0) _ 15 _ () d_F_relation_15 (trivial) (rfl)
