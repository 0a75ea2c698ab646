theorem d_F_isActivity_0 : decode prog_1_method_21_code 0 = .ok (.iload_n 0, 1) := by decide +kernel
theorem d_F_isActivity_1 : decode prog_1_method_21_code 1 = .ok (.ifCond .lt 13, 3) := by decide +kernel
theorem d_F_isActivity_4 : decode prog_1_method_21_code 4 = .ok (.iload_n 0, 1) := by decide +kernel
theorem d_F_isActivity_5 : decode prog_1_method_21_code 5 = .ok (.bipush 7, 2) := by decide +kernel
theorem d_F_isActivity_7 : decode prog_1_method_21_code 7 = .ok (.if_icmp .ge 7, 3) := by decide +kernel
theorem d_F_isActivity_10 : decode prog_1_method_21_code 10 = .ok (.iconst 1, 1) := by decide +kernel
theorem d_F_isActivity_11 : decode prog_1_method_21_code 11 = .ok (.goto 4, 3) := by decide +kernel
theorem d_F_isActivity_14 : decode prog_1_method_21_code 14 = .ok (.iconst 0, 1) := by decide +kernel
theorem d_F_isActivity_15 : decode prog_1_method_21_code 15 = .ok (.ireturn, 1) := by decide +kernel
set_option maxRecDepth 20000 in
set_option maxHeartbeats 4000000 in
theorem cF_isActivity (E : fk_E) (a : Nat) (ha : a < 2 ^ 31) : fk_C E fy_F_isActivity prog_1_method_21_code 1 (some .boolean) 0 0 0 [.int (nI a)] [] (S := Unit) (fun _ => some (.int (nI (Bool.toNat (decide (a < 7)))))) (fun _ => True) (fun _ => []) := by
  refine fk_enterZ (v := fun _ => decide (a < 7)) (by decide) (Nat.le_of_ble_eq_true rfl) (lv0 := [(0, .int (nI a))]) rfl ?_
  intro K hini hret
  refine fk_iload_n 0 d_F_isActivity_0 rfl ?_
  refine fk_if_lt (by omega) d_F_isActivity_1 rfl ?_
  refine fk_iload_n 0 d_F_isActivity_4 rfl ?_
  refine fk_bipush (v := nI 7) d_F_isActivity_5 (by decide +kernel) ?_
  refine fk_icmp_ge (a := a) (b := 7) (by omega) (by omega) d_F_isActivity_7 rfl (fun h7t => ?_) (fun h7f => ?_)
  · refine fk_iconst (v := nI 0) d_F_isActivity_14 (by decide +kernel) ?_
    refine fk_top (fn_rf (b := decide (a < 7)) (by first | assumption | (simp; omega) | simp_all | (simp_all; omega))) ?_
    exact hret (0, 0) _ 15 _ () d_F_isActivity_15 (trivial) (rfl)
  · refine fk_iconst (v := nI 1) d_F_isActivity_10 (by decide +kernel) ?_
    refine fk_goto d_F_isActivity_11 rfl ?_
    refine fk_top (fn_rt (b := decide (a < 7)) (by first | assumption | (simp; omega) | simp_all | (simp_all; omega))) ?_
    exact hret (0, 0) _ 15 _ () d_F_isActivity_15 (trivial) (rfl)
set_option maxRecDepth 20000 in
set_option maxHeartbeats 4000000 in
theorem cF_isActivityM (E : fk_E) (x : Int32) (hx : x < 0) : fk_C E fy_F_isActivity prog_1_method_21_code 1 (some .boolean) 0 0 0 [.int x] [] (S := Unit) (fun _ => some (.int (nI (Bool.toNat false)))) (fun _ => True) (fun _ => []) := by
  refine fk_enterZ (v := fun _ => false) (by decide) (Nat.le_of_ble_eq_true rfl) (lv0 := [(0, .int x)]) rfl ?_
  intro K hini hret
  refine fk_iload_n 0 d_F_isActivity_0 rfl ?_
  refine fk_if_ltR d_F_isActivity_1 rfl (fun h1t => ?_) (fun h1f => ?_)
  · refine fk_iconst (v := nI 0) d_F_isActivity_14 (by decide +kernel) ?_
    refine fk_top (fn_rf (b := false) (by first | assumption | (simp; omega) | simp_all | (simp_all; omega))) ?_
    exact hret (0, 0) _ 15 _ () d_F_isActivity_15 (trivial) (rfl)
  · exact absurd hx h1f
theorem d_F_isSet_0 : decode prog_1_method_22_code 0 = .ok (.iload_n 0, 1) := by decide +kernel
theorem d_F_isSet_1 : decode prog_1_method_22_code 1 = .ok (.ifCond .lt 14, 3) := by decide +kernel
theorem d_F_isSet_4 : decode prog_1_method_22_code 4 = .ok (.iload_n 0, 1) := by decide +kernel
theorem d_F_isSet_5 : decode prog_1_method_22_code 5 = .ok (.sipush 128, 3) := by decide +kernel
theorem d_F_isSet_8 : decode prog_1_method_22_code 8 = .ok (.if_icmp .ge 7, 3) := by decide +kernel
theorem d_F_isSet_11 : decode prog_1_method_22_code 11 = .ok (.iconst 1, 1) := by decide +kernel
theorem d_F_isSet_12 : decode prog_1_method_22_code 12 = .ok (.goto 4, 3) := by decide +kernel
theorem d_F_isSet_15 : decode prog_1_method_22_code 15 = .ok (.iconst 0, 1) := by decide +kernel
theorem d_F_isSet_16 : decode prog_1_method_22_code 16 = .ok (.ireturn, 1) := by decide +kernel
set_option maxRecDepth 20000 in
set_option maxHeartbeats 4000000 in
theorem cF_isSet (E : fk_E) (a : Nat) (ha : a < 2 ^ 31) : fk_C E fy_F_isSet prog_1_method_22_code 1 (some .boolean) 0 0 0 [.int (nI a)] [] (S := Unit) (fun _ => some (.int (nI (Bool.toNat (decide (a < 128)))))) (fun _ => True) (fun _ => []) := by
  refine fk_enterZ (v := fun _ => decide (a < 128)) (by decide) (Nat.le_of_ble_eq_true rfl) (lv0 := [(0, .int (nI a))]) rfl ?_
  intro K hini hret
  refine fk_iload_n 0 d_F_isSet_0 rfl ?_
  refine fk_if_lt (by omega) d_F_isSet_1 rfl ?_
  refine fk_iload_n 0 d_F_isSet_4 rfl ?_
  refine fk_sipush (v := nI 128) d_F_isSet_5 (by decide +kernel) ?_
  refine fk_icmp_ge (a := a) (b := 128) (by omega) (by omega) d_F_isSet_8 rfl (fun h8t => ?_) (fun h8f => ?_)
  · refine fk_iconst (v := nI 0) d_F_isSet_15 (by decide +kernel) ?_
    refine fk_top (fn_rf (b := decide (a < 128)) (by first | assumption | (simp; omega) | simp_all | (simp_all; omega))) ?_
    exact hret (0, 0) _ 16 _ () d_F_isSet_16 (trivial) (rfl)
  · refine fk_iconst (v := nI 1) d_F_isSet_11 (by decide +kernel) ?_
    refine fk_goto d_F_isSet_12 rfl ?_
    refine fk_top (fn_rt (b := decide (a < 128)) (by first | assumption | (simp; omega) | simp_all | (simp_all; omega))) ?_
    exact hret (0, 0) _ 16 _ () d_F_isSet_16 (trivial) (rfl)
set_option maxRecDepth 20000 in
set_option maxHeartbeats 4000000 in
theorem cF_isSetM (E : fk_E) (x : Int32) (hx : x < 0) : fk_C E fy_F_isSet prog_1_method_22_code 1 (some .boolean) 0 0 0 [.int x] [] (S := Unit) (fun _ => some (.int (nI (Bool.toNat false)))) (fun _ => True) (fun _ => []) := by
  refine fk_enterZ (v := fun _ => false) (by decide) (Nat.le_of_ble_eq_true rfl) (lv0 := [(0, .int x)]) rfl ?_
  intro K hini hret
  refine fk_iload_n 0 d_F_isSet_0 rfl ?_
  refine fk_if_ltR d_F_isSet_1 rfl (fun h1t => ?_) (fun h1f => ?_)
  · refine fk_iconst (v := nI 0) d_F_isSet_15 (by decide +kernel) ?_
    refine fk_top (fn_rf (b := false) (by first | assumption | (simp; omega) | simp_all | (simp_all; omega))) ?_
    exact hret (0, 0) _ 16 _ () d_F_isSet_16 (trivial) (rfl)
  · exact absurd hx h1f
theorem d_F_isIn_0 : decode prog_1_method_23_code 0 = .ok (.iload_n 1, 1) := by decide +kernel
theorem d_F_isIn_1 : decode prog_1_method_23_code 1 = .ok (.iconst 1, 1) := by decide +kernel
theorem d_F_isIn_2 : decode prog_1_method_23_code 2 = .ok (.iload_n 0, 1) := by decide +kernel
theorem d_F_isIn_3 : decode prog_1_method_23_code 3 = .ok (.ishl, 1) := by decide +kernel
theorem d_F_isIn_4 : decode prog_1_method_23_code 4 = .ok (.iand, 1) := by decide +kernel
theorem d_F_isIn_5 : decode prog_1_method_23_code 5 = .ok (.ifCond .eq 7, 3) := by decide +kernel
theorem d_F_isIn_8 : decode prog_1_method_23_code 8 = .ok (.iconst 1, 1) := by decide +kernel
theorem d_F_isIn_9 : decode prog_1_method_23_code 9 = .ok (.goto 4, 3) := by decide +kernel
theorem d_F_isIn_12 : decode prog_1_method_23_code 12 = .ok (.iconst 0, 1) := by decide +kernel
theorem d_F_isIn_13 : decode prog_1_method_23_code 13 = .ok (.ireturn, 1) := by decide +kernel
set_option maxRecDepth 20000 in
set_option maxHeartbeats 4000000 in
theorem cF_isIn (E : fk_E) (a : Nat) (s : Nat) (ha : a < 31) (hs : s < 2 ^ 31) : fk_C E fy_F_isIn prog_1_method_23_code 2 (some .boolean) 0 0 0 [.int (nI a), .int (nI s)] [] (S := Unit) (fun _ => some (.int (nI (Bool.toNat (Nat.testBit s a))))) (fun _ => True) (fun _ => []) := by
  refine fk_enterZ (v := fun _ => Nat.testBit s a) (by decide) (Nat.le_of_ble_eq_true rfl) (lv0 := [(0, .int (nI a)), (1, .int (nI s))]) rfl ?_
  intro K hini hret
  refine fk_iload_n 1 d_F_isIn_0 rfl ?_
  refine fk_iconst (v := nI 1) d_F_isIn_1 (by decide +kernel) ?_
  refine fk_iload_n 0 d_F_isIn_2 rfl ?_
  refine fk_ishl (a := 1) (b := a) d_F_isIn_3 (by omega) (by have := fb_pow31 ha; omega) ?_
  refine fk_top (show nI (1 * 2 ^ a) = nI (2 ^ a) by rw [Nat.one_mul]) ?_
  refine fk_iand (a := s) (b := (2 ^ a)) d_F_isIn_4 ?_
  refine fk_if_eq (a := (s &&& (2 ^ a))) (Nat.lt_of_le_of_lt Nat.and_le_left hs) d_F_isIn_5 rfl (fun h5t => ?_) (fun h5f => ?_)
  · have h9 := fb_and.mp h5t
    refine fk_iconst (v := nI 0) d_F_isIn_12 (by decide +kernel) ?_
    refine fk_top (fn_rf (b := Nat.testBit s a) (by first | assumption | (simp; omega) | simp_all | (simp_all; omega))) ?_
    exact hret (0, 0) _ 13 _ () d_F_isIn_13 (trivial) (rfl)
  · have h9 := fb_and_ne.mp h5f
    refine fk_iconst (v := nI 1) d_F_isIn_8 (by decide +kernel) ?_
    refine fk_goto d_F_isIn_9 rfl ?_
    refine fk_top (fn_rt (b := Nat.testBit s a) (by first | assumption | (simp; omega) | simp_all | (simp_all; omega))) ?_
    exact hret (0, 0) _ 13 _ () d_F_isIn_13 (trivial) (rfl)
theorem d_Lg_isFull_0 : decode prog_2_method_2_code 0 = .ok (.aload_n 0, 1) := by decide +kernel
theorem d_Lg_isFull_1 : decode prog_2_method_2_code 1 = .ok (.getfield 21, 3) := by decide +kernel
theorem d_Lg_isFull_4 : decode prog_2_method_2_code 4 = .ok (.bipush 20, 2) := by decide +kernel
theorem d_Lg_isFull_6 : decode prog_2_method_2_code 6 = .ok (.if_icmp .ne 7, 3) := by decide +kernel
theorem d_Lg_isFull_9 : decode prog_2_method_2_code 9 = .ok (.iconst 1, 1) := by decide +kernel
theorem d_Lg_isFull_10 : decode prog_2_method_2_code 10 = .ok (.goto 4, 3) := by decide +kernel
theorem d_Lg_isFull_13 : decode prog_2_method_2_code 13 = .ok (.iconst 0, 1) := by decide +kernel
theorem d_Lg_isFull_14 : decode prog_2_method_2_code 14 = .ok (.ireturn, 1) := by decide +kernel
set_option maxRecDepth 20000 in
set_option maxHeartbeats 4000000 in
theorem cL_isFull (E : fk_E) (a0 : Nat) (a1 : Nat) (a2 : Nat) (a3 : Nat) (tr : Nat) (ht : tr ≤ 20) : fk_C E fy_Lg_isFull prog_2_method_2_code 1 (some .boolean) 0 0 0 [.ref a0] [(a0, .inr (1, [.ref a1, .ref a2, .ref a3, .int (nI tr)]))] (S := Unit) (fun _ => some (.int (nI (Bool.toNat (decide (tr = 20)))))) (fun _ => True) (fun _ => [(a0, .inr (1, [.ref a1, .ref a2, .ref a3, .int (nI tr)]))]) := by
  refine fk_enterZ (v := fun _ => decide (tr = 20)) (by decide) (Nat.le_of_ble_eq_true rfl) (lv0 := [(0, .ref a0)]) rfl ?_
  intro K hini hret
  refine fk_aload_n 0 d_Lg_isFull_0 rfl ?_
  refine fk_get 0 3 rfl rfl fh_Lg (Nat.le_of_ble_eq_true rfl) fw_27 rfl d_Lg_isFull_1 ?_
  refine fk_bipush (v := nI 20) d_Lg_isFull_4 (by decide +kernel) ?_
  refine fk_icmp_ne (a := tr) (b := 20) (by omega) (by omega) d_Lg_isFull_6 rfl (fun h6t => ?_) (fun h6f => ?_)
  · refine fk_iconst (v := nI 0) d_Lg_isFull_13 (by decide +kernel) ?_
    refine fk_top (fn_rf (b := decide (tr = 20)) (by first | assumption | (simp; omega) | simp_all | (simp_all; omega))) ?_
    exact hret (0, 0) _ 14 _ () d_Lg_isFull_14 (trivial) (rfl)
  · refine fk_iconst (v := nI 1) d_Lg_isFull_9 (by decide +kernel) ?_
    refine fk_goto d_Lg_isFull_10 rfl ?_
    refine fk_top (fn_rt (b := decide (tr = 20)) (by first | assumption | (simp; omega) | simp_all | (simp_all; omega))) ?_
    exact hret (0, 0) _ 14 _ () d_Lg_isFull_14 (trivial) (rfl)
theorem d_Lg_hasTrace_0 : decode prog_2_method_3_code 0 = .ok (.iload_n 1, 1) := by decide +kernel
theorem d_Lg_hasTrace_1 : decode prog_2_method_3_code 1 = .ok (.ifCond .lt 15, 3) := by decide +kernel
theorem d_Lg_hasTrace_4 : decode prog_2_method_3_code 4 = .ok (.iload_n 1, 1) := by decide +kernel
theorem d_Lg_hasTrace_5 : decode prog_2_method_3_code 5 = .ok (.aload_n 0, 1) := by decide +kernel
theorem d_Lg_hasTrace_6 : decode prog_2_method_3_code 6 = .ok (.getfield 21, 3) := by decide +kernel
theorem d_Lg_hasTrace_9 : decode prog_2_method_3_code 9 = .ok (.if_icmp .ge 7, 3) := by decide +kernel
theorem d_Lg_hasTrace_12 : decode prog_2_method_3_code 12 = .ok (.iconst 1, 1) := by decide +kernel
theorem d_Lg_hasTrace_13 : decode prog_2_method_3_code 13 = .ok (.goto 4, 3) := by decide +kernel
theorem d_Lg_hasTrace_16 : decode prog_2_method_3_code 16 = .ok (.iconst 0, 1) := by decide +kernel
theorem d_Lg_hasTrace_17 : decode prog_2_method_3_code 17 = .ok (.ireturn, 1) := by decide +kernel
set_option maxRecDepth 20000 in
set_option maxHeartbeats 4000000 in
theorem cL_hasTrace (E : fk_E) (a0 : Nat) (a1 : Nat) (a2 : Nat) (a3 : Nat) (tr : Nat) (t : Nat) (ht : tr ≤ 20) (h1 : t < 2 ^ 31) : fk_C E fy_Lg_hasTrace prog_2_method_3_code 2 (some .boolean) 0 0 0 [.ref a0, .int (nI t)] [(a0, .inr (1, [.ref a1, .ref a2, .ref a3, .int (nI tr)]))] (S := Unit) (fun _ => some (.int (nI (Bool.toNat (decide (t < tr)))))) (fun _ => True) (fun _ => [(a0, .inr (1, [.ref a1, .ref a2, .ref a3, .int (nI tr)]))]) := by
  refine fk_enterZ (v := fun _ => decide (t < tr)) (by decide) (Nat.le_of_ble_eq_true rfl) (lv0 := [(0, .ref a0), (1, .int (nI t))]) rfl ?_
  intro K hini hret
  refine fk_iload_n 1 d_Lg_hasTrace_0 rfl ?_
  refine fk_if_lt (by omega) d_Lg_hasTrace_1 rfl ?_
  refine fk_iload_n 1 d_Lg_hasTrace_4 rfl ?_
  refine fk_aload_n 0 d_Lg_hasTrace_5 rfl ?_
  refine fk_get 0 3 rfl rfl fh_Lg (Nat.le_of_ble_eq_true rfl) fw_27 rfl d_Lg_hasTrace_6 ?_
  refine fk_icmp_ge (a := t) (b := tr) (by omega) (by omega) d_Lg_hasTrace_9 rfl (fun h9t => ?_) (fun h9f => ?_)
  · refine fk_iconst (v := nI 0) d_Lg_hasTrace_16 (by decide +kernel) ?_
    refine fk_top (fn_rf (b := decide (t < tr)) (by first | assumption | (simp; omega) | simp_all | (simp_all; omega))) ?_
    exact hret (0, 0) _ 17 _ () d_Lg_hasTrace_17 (trivial) (rfl)
  · refine fk_iconst (v := nI 1) d_Lg_hasTrace_12 (by decide +kernel) ?_
    refine fk_goto d_Lg_hasTrace_13 rfl ?_
    refine fk_top (fn_rt (b := decide (t < tr)) (by first | assumption | (simp; omega) | simp_all | (simp_all; omega))) ?_
    exact hret (0, 0) _ 17 _ () d_Lg_hasTrace_17 (trivial) (rfl)
set_option maxRecDepth 20000 in
set_option maxHeartbeats 4000000 in
theorem cL_hasTraceM (E : fk_E) (a0 : Nat) (a1 : Nat) (a2 : Nat) (a3 : Nat) (tr : Nat) (x : Int32) (hx : x < 0) : fk_C E fy_Lg_hasTrace prog_2_method_3_code 2 (some .boolean) 0 0 0 [.ref a0, .int x] [(a0, .inr (1, [.ref a1, .ref a2, .ref a3, .int (nI tr)]))] (S := Unit) (fun _ => some (.int (nI (Bool.toNat false)))) (fun _ => True) (fun _ => [(a0, .inr (1, [.ref a1, .ref a2, .ref a3, .int (nI tr)]))]) := by
  refine fk_enterZ (v := fun _ => false) (by decide) (Nat.le_of_ble_eq_true rfl) (lv0 := [(0, .ref a0), (1, .int x)]) rfl ?_
  intro K hini hret
  refine fk_iload_n 1 d_Lg_hasTrace_0 rfl ?_
  refine fk_if_ltR d_Lg_hasTrace_1 rfl (fun h1t => ?_) (fun h1f => ?_)
  · refine fk_iconst (v := nI 0) d_Lg_hasTrace_16 (by decide +kernel) ?_
    refine fk_top (fn_rf (b := false) (by first | assumption | (simp; omega) | simp_all | (simp_all; omega))) ?_
    exact hret (0, 0) _ 17 _ () d_Lg_hasTrace_17 (trivial) (rfl)
  · exact absurd hx h1f
theorem d_Lg_lengthOf_0 : decode prog_2_method_5_code 0 = .ok (.aload_n 0, 1) := by decide +kernel
theorem d_Lg_lengthOf_1 : decode prog_2_method_5_code 1 = .ok (.getfield 9, 3) := by decide +kernel
theorem d_Lg_lengthOf_4 : decode prog_2_method_5_code 4 = .ok (.iload_n 1, 1) := by decide +kernel
theorem d_Lg_lengthOf_5 : decode prog_2_method_5_code 5 = .ok (.iaload, 1) := by decide +kernel
theorem d_Lg_lengthOf_6 : decode prog_2_method_5_code 6 = .ok (.ireturn, 1) := by decide +kernel
set_option maxRecDepth 20000 in
set_option maxHeartbeats 4000000 in
theorem cL_lengthOf (E : fk_E) (a0 : Nat) (a1 : Nat) (a2 : Nat) (a3 : Nat) (tr : Nat) (len : Nat → Nat) (t : Nat) (h1 : t < 20) : fk_C E fy_Lg_lengthOf prog_2_method_5_code 2 (some .int) 0 0 0 [.ref a0, .int (nI t)] [(a0, .inr (1, [.ref a1, .ref a2, .ref a3, .int (nI tr)])), fk_ai E a1 20 len] (S := Unit) (fun _ => some (.int (nI (len t)))) (fun _ => True) (fun _ => [(a0, .inr (1, [.ref a1, .ref a2, .ref a3, .int (nI tr)])), fk_ai E a1 20 len]) := by
  refine fk_enterI (v := fun _ => (nI (len t))) (by decide) (Nat.le_of_ble_eq_true rfl) (lv0 := [(0, .ref a0), (1, .int (nI t))]) rfl ?_
  intro K hini hret
  refine fk_aload_n 0 d_Lg_lengthOf_0 rfl ?_
  refine fk_get 0 0 rfl rfl fh_Lg (Nat.le_of_ble_eq_true rfl) fw_24 rfl d_Lg_lengthOf_1 ?_
  refine fk_iload_n 1 d_Lg_lengthOf_4 rfl ?_
  refine fk_ld_ai (i := t) 1 rfl (by omega) (by decide) d_Lg_lengthOf_5 ?_
  exact hret (0, 0) _ 6 _ () d_Lg_lengthOf_6 (trivial) (rfl)
theorem d_Lg_activityAt_0 : decode prog_2_method_6_code 0 = .ok (.aload_n 0, 1) := by decide +kernel
theorem d_Lg_activityAt_1 : decode prog_2_method_6_code 1 = .ok (.getfield 15, 3) := by decide +kernel
theorem d_Lg_activityAt_4 : decode prog_2_method_6_code 4 = .ok (.iload_n 1, 1) := by decide +kernel
theorem d_Lg_activityAt_5 : decode prog_2_method_6_code 5 = .ok (.bipush 15, 2) := by decide +kernel
theorem d_Lg_activityAt_7 : decode prog_2_method_6_code 7 = .ok (.imul, 1) := by decide +kernel
theorem d_Lg_activityAt_8 : decode prog_2_method_6_code 8 = .ok (.iload_n 2, 1) := by decide +kernel
theorem d_Lg_activityAt_9 : decode prog_2_method_6_code 9 = .ok (.iadd, 1) := by decide +kernel
theorem d_Lg_activityAt_10 : decode prog_2_method_6_code 10 = .ok (.iaload, 1) := by decide +kernel
theorem d_Lg_activityAt_11 : decode prog_2_method_6_code 11 = .ok (.ireturn, 1) := by decide +kernel
set_option maxRecDepth 20000 in
set_option maxHeartbeats 4000000 in
theorem cL_activityAt (E : fk_E) (a0 : Nat) (a1 : Nat) (a2 : Nat) (a3 : Nat) (tr : Nat) (ev : Nat → Nat) (t : Nat) (i : Nat) (h1 : 15 * t + i < 300) : fk_C E fy_Lg_activityAt prog_2_method_6_code 3 (some .int) 0 0 0 [.ref a0, .int (nI t), .int (nI i)] [(a0, .inr (1, [.ref a1, .ref a2, .ref a3, .int (nI tr)])), fk_ai E a2 300 ev] (S := Unit) (fun _ => some (.int (nI (ev (15 * t + i))))) (fun _ => True) (fun _ => [(a0, .inr (1, [.ref a1, .ref a2, .ref a3, .int (nI tr)])), fk_ai E a2 300 ev]) := by
  refine fk_enterI (v := fun _ => (nI (ev (15 * t + i)))) (by decide) (Nat.le_of_ble_eq_true rfl) (lv0 := [(0, .ref a0), (1, .int (nI t)), (2, .int (nI i))]) rfl ?_
  intro K hini hret
  refine fk_aload_n 0 d_Lg_activityAt_0 rfl ?_
  refine fk_get 0 1 rfl rfl fh_Lg (Nat.le_of_ble_eq_true rfl) fw_25 rfl d_Lg_activityAt_1 ?_
  refine fk_iload_n 1 d_Lg_activityAt_4 rfl ?_
  refine fk_bipush (v := nI 15) d_Lg_activityAt_5 (by decide +kernel) ?_
  refine fk_imul (a := t) (b := 15) d_Lg_activityAt_7 ?_
  refine fk_iload_n 2 d_Lg_activityAt_8 rfl ?_
  refine fk_iadd (a := (t * 15)) (b := i) d_Lg_activityAt_9 ?_
  refine fk_top (show (nI ((t * 15) + i)) = (nI (15 * t + i)) from congrArg nI (by omega)) ?_
  refine fk_ld_ai (i := (15 * t + i)) 1 rfl (by omega) (by decide) d_Lg_activityAt_10 ?_
  exact hret (0, 0) _ 11 _ () d_Lg_activityAt_11 (trivial) (rfl)
theorem d_Lg_hasEvent_0 : decode prog_2_method_4_code 0 = .ok (.aload_n 0, 1) := by decide +kernel
theorem d_Lg_hasEvent_1 : decode prog_2_method_4_code 1 = .ok (.iload_n 1, 1) := by decide +kernel
theorem d_Lg_hasEvent_2 : decode prog_2_method_4_code 2 = .ok (.invokevirtual 25, 3) := by decide +kernel
theorem d_Lg_hasEvent_5 : decode prog_2_method_4_code 5 = .ok (.ifCond .eq 21, 3) := by decide +kernel
theorem d_Lg_hasEvent_8 : decode prog_2_method_4_code 8 = .ok (.iload_n 2, 1) := by decide +kernel
theorem d_Lg_hasEvent_9 : decode prog_2_method_4_code 9 = .ok (.ifCond .lt 17, 3) := by decide +kernel
theorem d_Lg_hasEvent_12 : decode prog_2_method_4_code 12 = .ok (.iload_n 2, 1) := by decide +kernel
theorem d_Lg_hasEvent_13 : decode prog_2_method_4_code 13 = .ok (.aload_n 0, 1) := by decide +kernel
theorem d_Lg_hasEvent_14 : decode prog_2_method_4_code 14 = .ok (.getfield 9, 3) := by decide +kernel
theorem d_Lg_hasEvent_17 : decode prog_2_method_4_code 17 = .ok (.iload_n 1, 1) := by decide +kernel
theorem d_Lg_hasEvent_18 : decode prog_2_method_4_code 18 = .ok (.iaload, 1) := by decide +kernel
theorem d_Lg_hasEvent_19 : decode prog_2_method_4_code 19 = .ok (.if_icmp .ge 7, 3) := by decide +kernel
theorem d_Lg_hasEvent_22 : decode prog_2_method_4_code 22 = .ok (.iconst 1, 1) := by decide +kernel
theorem d_Lg_hasEvent_23 : decode prog_2_method_4_code 23 = .ok (.goto 4, 3) := by decide +kernel
theorem d_Lg_hasEvent_26 : decode prog_2_method_4_code 26 = .ok (.iconst 0, 1) := by decide +kernel
theorem d_Lg_hasEvent_27 : decode prog_2_method_4_code 27 = .ok (.ireturn, 1) := by decide +kernel
set_option maxRecDepth 20000 in
set_option maxHeartbeats 4000000 in
theorem cL_hasEvent (E : fk_E) (a0 : Nat) (a1 : Nat) (a2 : Nat) (a3 : Nat) (tr : Nat) (len : Nat → Nat) (t : Nat) (i : Nat) (ht : tr ≤ 20) (h1 : t < 2 ^ 31) (h2 : i < 2 ^ 31) (h3 : ∀ k, k < 20 → len k ≤ 15) : fk_C E fy_Lg_hasEvent prog_2_method_4_code 3 (some .boolean) 1 0 0 [.ref a0, .int (nI t), .int (nI i)] [(a0, .inr (1, [.ref a1, .ref a2, .ref a3, .int (nI tr)])), fk_ai E a1 20 len] (S := Unit) (fun _ => some (.int (nI (Bool.toNat (decide (t < tr ∧ i < len t)))))) (fun _ => True) (fun _ => [(a0, .inr (1, [.ref a1, .ref a2, .ref a3, .int (nI tr)])), fk_ai E a1 20 len]) := by
  refine fk_enterZ (v := fun _ => decide (t < tr ∧ i < len t)) (by decide) (Nat.le_of_ble_eq_true rfl) (lv0 := [(0, .ref a0), (1, .int (nI t)), (2, .int (nI i))]) rfl ?_
  intro K hini hret
  refine fk_aload_n 0 d_Lg_hasEvent_0 rfl ?_
  refine fk_iload_n 1 d_Lg_hasEvent_1 rfl ?_
  refine fk_callV (q0 := 0) (As := [.int (nI t)]) (rest := []) (is := [0]) (ir := [1]) (ip := [1, 0]) (wc := [(a0, .inr (1, [.ref a1, .ref a2, .ref a3, .int (nI tr)]))]) (wr := [fk_ai E a1 20 len]) (w2 := fun _ => [(a0, .inr (1, [.ref a1, .ref a2, .ref a3, .int (nI tr)])), fk_ai E a1 20 len]) (cL_hasTrace E a0 a1 a2 a3 tr t (by first | omega | assumption) (by first | omega | assumption)) d_Lg_hasEvent_2 fz_Lg_hasTrace fw_211 rfl rfl fw_196 fw_197 ⟨Nat.le_of_ble_eq_true rfl, Nat.le_of_ble_eq_true rfl⟩ rfl (Nat.le_of_ble_eq_true rfl) ⟨Nat.zero_le _, Nat.zero_le _⟩ ⟨rfl, rfl, rfl, rfl, by decide, fun _ => rfl, rfl⟩ (fun u hu2 => ?_)
  show fk_V E _ K (0, 0) [(a0, .inr (1, [.ref a1, .ref a2, .ref a3, .int (nI tr)])), fk_ai E a1 20 len] 5 [(0, .ref a0), (1, .int (nI t)), (2, .int (nI i))] [.int (nI (Bool.toNat (decide (t < tr))))]
  refine fk_if_eqB (b := (decide (t < tr))) d_Lg_hasEvent_5 rfl (fun h5t => ?_) (fun h5f => ?_)
  · have h9 : ¬ t < tr := of_decide_eq_false h5t
    refine fk_iconst (v := nI 0) d_Lg_hasEvent_26 (by decide +kernel) ?_
    refine fk_top (fn_rf (b := decide (t < tr ∧ i < len t)) (by first | assumption | (simp; omega) | simp_all | (simp_all; omega))) ?_
    exact hret (0, 0) _ 27 _ () d_Lg_hasEvent_27 (trivial) (rfl)
  · have h9 : t < tr := of_decide_eq_true h5f
    have h8 := h3 t (by omega)
    refine fk_iload_n 2 d_Lg_hasEvent_8 rfl ?_
    refine fk_if_lt (by omega) d_Lg_hasEvent_9 rfl ?_
    refine fk_iload_n 2 d_Lg_hasEvent_12 rfl ?_
    refine fk_aload_n 0 d_Lg_hasEvent_13 rfl ?_
    refine fk_get 0 0 rfl rfl fh_Lg (Nat.le_of_ble_eq_true rfl) fw_24 rfl d_Lg_hasEvent_14 ?_
    refine fk_iload_n 1 d_Lg_hasEvent_17 rfl ?_
    refine fk_ld_ai (i := t) 1 rfl (by omega) (by decide) d_Lg_hasEvent_18 ?_
    refine fk_icmp_ge (a := i) (b := (len t)) (by omega) (by omega) d_Lg_hasEvent_19 rfl (fun h19t => ?_) (fun h19f => ?_)
    · refine fk_iconst (v := nI 0) d_Lg_hasEvent_26 (by decide +kernel) ?_
      refine fk_top (fn_rf (b := decide (t < tr ∧ i < len t)) (by first | assumption | (simp; omega) | simp_all | (simp_all; omega))) ?_
      exact hret (0, 0) _ 27 _ () d_Lg_hasEvent_27 (trivial) (rfl)
    · refine fk_iconst (v := nI 1) d_Lg_hasEvent_22 (by decide +kernel) ?_
      refine fk_goto d_Lg_hasEvent_23 rfl ?_
      refine fk_top (fn_rt (b := decide (t < tr ∧ i < len t)) (by first | assumption | (simp; omega) | simp_all | (simp_all; omega))) ?_
      exact hret (0, 0) _ 27 _ () d_Lg_hasEvent_27 (trivial) (rfl)
set_option maxRecDepth 20000 in
set_option maxHeartbeats 4000000 in
theorem cL_hasEventM (E : fk_E) (a0 : Nat) (a1 : Nat) (a2 : Nat) (a3 : Nat) (tr : Nat) (len : Nat → Nat) (t : Nat) (x : Int32) (ht : tr ≤ 20) (h1 : t < 2 ^ 31) (hx : x < 0) : fk_C E fy_Lg_hasEvent prog_2_method_4_code 3 (some .boolean) 1 0 0 [.ref a0, .int (nI t), .int x] [(a0, .inr (1, [.ref a1, .ref a2, .ref a3, .int (nI tr)])), fk_ai E a1 20 len] (S := Unit) (fun _ => some (.int (nI (Bool.toNat false)))) (fun _ => True) (fun _ => [(a0, .inr (1, [.ref a1, .ref a2, .ref a3, .int (nI tr)])), fk_ai E a1 20 len]) := by
  refine fk_enterZ (v := fun _ => false) (by decide) (Nat.le_of_ble_eq_true rfl) (lv0 := [(0, .ref a0), (1, .int (nI t)), (2, .int x)]) rfl ?_
  intro K hini hret
  refine fk_aload_n 0 d_Lg_hasEvent_0 rfl ?_
  refine fk_iload_n 1 d_Lg_hasEvent_1 rfl ?_
  refine fk_callV (q0 := 0) (As := [.int (nI t)]) (rest := []) (is := [0]) (ir := [1]) (ip := [1, 0]) (wc := [(a0, .inr (1, [.ref a1, .ref a2, .ref a3, .int (nI tr)]))]) (wr := [fk_ai E a1 20 len]) (w2 := fun _ => [(a0, .inr (1, [.ref a1, .ref a2, .ref a3, .int (nI tr)])), fk_ai E a1 20 len]) (cL_hasTrace E a0 a1 a2 a3 tr t (by first | omega | assumption) (by first | omega | assumption)) d_Lg_hasEvent_2 fz_Lg_hasTrace fw_211 rfl rfl fw_196 fw_197 ⟨Nat.le_of_ble_eq_true rfl, Nat.le_of_ble_eq_true rfl⟩ rfl (Nat.le_of_ble_eq_true rfl) ⟨Nat.zero_le _, Nat.zero_le _⟩ ⟨rfl, rfl, rfl, rfl, by decide, fun _ => rfl, rfl⟩ (fun u hu2 => ?_)
  show fk_V E _ K (0, 0) [(a0, .inr (1, [.ref a1, .ref a2, .ref a3, .int (nI tr)])), fk_ai E a1 20 len] 5 [(0, .ref a0), (1, .int (nI t)), (2, .int x)] [.int (nI (Bool.toNat (decide (t < tr))))]
  refine fk_if_eqB (b := (decide (t < tr))) d_Lg_hasEvent_5 rfl (fun h5t => ?_) (fun h5f => ?_)
  · refine fk_iconst (v := nI 0) d_Lg_hasEvent_26 (by decide +kernel) ?_
    refine fk_top (fn_rf (b := false) (by first | assumption | (simp; omega) | simp_all | (simp_all; omega))) ?_
    exact hret (0, 0) _ 27 _ () d_Lg_hasEvent_27 (trivial) (rfl)
  · refine fk_iload_n 2 d_Lg_hasEvent_8 rfl ?_
    refine fk_if_ltR d_Lg_hasEvent_9 rfl (fun h9t => ?_) (fun h9f => ?_)
    · refine fk_iconst (v := nI 0) d_Lg_hasEvent_26 (by decide +kernel) ?_
      refine fk_top (fn_rf (b := false) (by first | assumption | (simp; omega) | simp_all | (simp_all; omega))) ?_
      exact hret (0, 0) _ 27 _ () d_Lg_hasEvent_27 (trivial) (rfl)
    · exact absurd hx h9f
set_option maxRecDepth 20000 in
set_option maxHeartbeats 4000000 in
theorem cL_hasEventN (E : fk_E) (a0 : Nat) (a1 : Nat) (a2 : Nat) (a3 : Nat) (tr : Nat) (len : Nat → Nat) (x : Int32) (y : Int32) (hx : x < 0) : fk_C E fy_Lg_hasEvent prog_2_method_4_code 3 (some .boolean) 1 0 0 [.ref a0, .int x, .int y] [(a0, .inr (1, [.ref a1, .ref a2, .ref a3, .int (nI tr)])), fk_ai E a1 20 len] (S := Unit) (fun _ => some (.int (nI (Bool.toNat false)))) (fun _ => True) (fun _ => [(a0, .inr (1, [.ref a1, .ref a2, .ref a3, .int (nI tr)])), fk_ai E a1 20 len]) := by
  refine fk_enterZ (v := fun _ => false) (by decide) (Nat.le_of_ble_eq_true rfl) (lv0 := [(0, .ref a0), (1, .int x), (2, .int y)]) rfl ?_
  intro K hini hret
  refine fk_aload_n 0 d_Lg_hasEvent_0 rfl ?_
  refine fk_iload_n 1 d_Lg_hasEvent_1 rfl ?_
  refine fk_callV (q0 := 0) (As := [.int x]) (rest := []) (is := [0]) (ir := [1]) (ip := [1, 0]) (wc := [(a0, .inr (1, [.ref a1, .ref a2, .ref a3, .int (nI tr)]))]) (wr := [fk_ai E a1 20 len]) (w2 := fun _ => [(a0, .inr (1, [.ref a1, .ref a2, .ref a3, .int (nI tr)])), fk_ai E a1 20 len]) (cL_hasTraceM E a0 a1 a2 a3 tr x (by first | omega | assumption)) d_Lg_hasEvent_2 fz_Lg_hasTrace fw_211 rfl rfl fw_196 fw_197 ⟨Nat.le_of_ble_eq_true rfl, Nat.le_of_ble_eq_true rfl⟩ rfl (Nat.le_of_ble_eq_true rfl) ⟨Nat.zero_le _, Nat.zero_le _⟩ ⟨rfl, rfl, rfl, rfl, by decide, fun _ => rfl, rfl⟩ (fun u hu2 => ?_)
  show fk_V E _ K (0, 0) [(a0, .inr (1, [.ref a1, .ref a2, .ref a3, .int (nI tr)])), fk_ai E a1 20 len] 5 [(0, .ref a0), (1, .int x), (2, .int y)] [.int (nI (Bool.toNat false))]
  refine fk_if_eqB (b := false) d_Lg_hasEvent_5 rfl (fun h5t => ?_) (fun h5f => ?_)
  · refine fk_iconst (v := nI 0) d_Lg_hasEvent_26 (by decide +kernel) ?_
    refine fk_top (fn_rf (b := false) (by first | assumption | (simp; omega) | simp_all | (simp_all; omega))) ?_
    exact hret (0, 0) _ 27 _ () d_Lg_hasEvent_27 (trivial) (rfl)
  · exact absurd h5f (by decide)
theorem d_Lg_addTrace_0 : decode prog_2_method_7_code 0 = .ok (.aload_n 0, 1) := by decide +kernel
theorem d_Lg_addTrace_1 : decode prog_2_method_7_code 1 = .ok (.invokevirtual 29, 3) := by decide +kernel
theorem d_Lg_addTrace_4 : decode prog_2_method_7_code 4 = .ok (.ifCond .eq 6, 3) := by decide +kernel
theorem d_Lg_addTrace_7 : decode prog_2_method_7_code 7 = .ok (.bipush (-2), 2) := by decide +kernel
theorem d_Lg_addTrace_9 : decode prog_2_method_7_code 9 = .ok (.ireturn, 1) := by decide +kernel
theorem d_Lg_addTrace_10 : decode prog_2_method_7_code 10 = .ok (.aload_n 0, 1) := by decide +kernel
theorem d_Lg_addTrace_11 : decode prog_2_method_7_code 11 = .ok (.getfield 9, 3) := by decide +kernel
theorem d_Lg_addTrace_14 : decode prog_2_method_7_code 14 = .ok (.aload_n 0, 1) := by decide +kernel
theorem d_Lg_addTrace_15 : decode prog_2_method_7_code 15 = .ok (.getfield 21, 3) := by decide +kernel
theorem d_Lg_addTrace_18 : decode prog_2_method_7_code 18 = .ok (.iconst 0, 1) := by decide +kernel
theorem d_Lg_addTrace_19 : decode prog_2_method_7_code 19 = .ok (.iastore, 1) := by decide +kernel
theorem d_Lg_addTrace_20 : decode prog_2_method_7_code 20 = .ok (.aload_n 0, 1) := by decide +kernel
theorem d_Lg_addTrace_21 : decode prog_2_method_7_code 21 = .ok (.dup, 1) := by decide +kernel
theorem d_Lg_addTrace_22 : decode prog_2_method_7_code 22 = .ok (.getfield 21, 3) := by decide +kernel
theorem d_Lg_addTrace_25 : decode prog_2_method_7_code 25 = .ok (.iconst 1, 1) := by decide +kernel
theorem d_Lg_addTrace_26 : decode prog_2_method_7_code 26 = .ok (.iadd, 1) := by decide +kernel
theorem d_Lg_addTrace_27 : decode prog_2_method_7_code 27 = .ok (.putfield 21, 3) := by decide +kernel
theorem d_Lg_addTrace_30 : decode prog_2_method_7_code 30 = .ok (.aload_n 0, 1) := by decide +kernel
theorem d_Lg_addTrace_31 : decode prog_2_method_7_code 31 = .ok (.getfield 21, 3) := by decide +kernel
theorem d_Lg_addTrace_34 : decode prog_2_method_7_code 34 = .ok (.iconst 1, 1) := by decide +kernel
theorem d_Lg_addTrace_35 : decode prog_2_method_7_code 35 = .ok (.isub, 1) := by decide +kernel
theorem d_Lg_addTrace_36 : decode prog_2_method_7_code 36 = .ok (.ireturn, 1) := by decide +kernel
set_option maxRecDepth 20000 in
set_option maxHeartbeats 4000000 in
theorem cL_addTraceF (E : fk_E) (a0 : Nat) (a1 : Nat) (a2 : Nat) (a3 : Nat) (tr : Nat) (len : Nat → Nat) (ht : tr = 20) : fk_C E fy_Lg_addTrace prog_2_method_7_code 1 (some .int) 1 0 0 [.ref a0] [(a0, .inr (1, [.ref a1, .ref a2, .ref a3, .int (nI tr)])), fk_ai E a1 20 len] (S := Unit) (fun _ => some (.int (-2))) (fun _ => True) (fun _ => [(a0, .inr (1, [.ref a1, .ref a2, .ref a3, .int (nI tr)])), fk_ai E a1 20 len]) := by
  refine fk_enterI (v := fun _ => (-2)) (by decide) (Nat.le_of_ble_eq_true rfl) (lv0 := [(0, .ref a0)]) rfl ?_
  intro K hini hret
  refine fk_aload_n 0 d_Lg_addTrace_0 rfl ?_
  refine fk_callV (q0 := 0) (As := []) (rest := []) (is := [0]) (ir := [1]) (ip := [1, 0]) (wc := [(a0, .inr (1, [.ref a1, .ref a2, .ref a3, .int (nI tr)]))]) (wr := [fk_ai E a1 20 len]) (w2 := fun _ => [(a0, .inr (1, [.ref a1, .ref a2, .ref a3, .int (nI tr)])), fk_ai E a1 20 len]) (cL_isFull E a0 a1 a2 a3 tr (by first | omega | assumption)) d_Lg_addTrace_1 fz_Lg_isFull fw_161 rfl rfl fw_162 fw_163 ⟨Nat.le_of_ble_eq_true rfl, Nat.le_of_ble_eq_true rfl⟩ rfl (Nat.le_of_ble_eq_true rfl) ⟨Nat.zero_le _, Nat.zero_le _⟩ ⟨rfl, rfl, rfl, rfl, by decide, fun _ => rfl, rfl⟩ (fun u hu1 => ?_)
  show fk_V E _ K (0, 0) [(a0, .inr (1, [.ref a1, .ref a2, .ref a3, .int (nI tr)])), fk_ai E a1 20 len] 4 [(0, .ref a0)] [.int (nI (Bool.toNat (decide (tr = 20))))]
  refine fk_if_eqB (b := (decide (tr = 20))) d_Lg_addTrace_4 rfl (fun h4t => ?_) (fun h4f => ?_)
  · simp_all
  · refine fk_bipush (v := -2) d_Lg_addTrace_7 (by decide +kernel) ?_
    exact hret (0, 0) _ 9 _ () d_Lg_addTrace_9 (trivial) (rfl)
set_option maxRecDepth 20000 in
set_option maxHeartbeats 4000000 in
theorem cL_addTrace (E : fk_E) (a0 : Nat) (a1 : Nat) (a2 : Nat) (a3 : Nat) (tr : Nat) (len : Nat → Nat) (ht : tr < 20) : fk_C E fy_Lg_addTrace prog_2_method_7_code 1 (some .int) 1 0 0 [.ref a0] [(a0, .inr (1, [.ref a1, .ref a2, .ref a3, .int (nI tr)])), fk_ai E a1 20 len] (S := Unit) (fun _ => some (.int (nI tr))) (fun _ => True) (fun _ => [(a0, .inr (1, [.ref a1, .ref a2, .ref a3, .int (nI (tr + 1))])), fk_ai E a1 20 (va_up len tr 0)]) := by
  refine fk_enterI (v := fun _ => (nI tr)) (by decide) (Nat.le_of_ble_eq_true rfl) (lv0 := [(0, .ref a0)]) rfl ?_
  intro K hini hret
  refine fk_aload_n 0 d_Lg_addTrace_0 rfl ?_
  refine fk_callV (q0 := 0) (As := []) (rest := []) (is := [0]) (ir := [1]) (ip := [1, 0]) (wc := [(a0, .inr (1, [.ref a1, .ref a2, .ref a3, .int (nI tr)]))]) (wr := [fk_ai E a1 20 len]) (w2 := fun _ => [(a0, .inr (1, [.ref a1, .ref a2, .ref a3, .int (nI tr)])), fk_ai E a1 20 len]) (cL_isFull E a0 a1 a2 a3 tr (by first | omega | assumption)) d_Lg_addTrace_1 fz_Lg_isFull fw_161 rfl rfl fw_162 fw_163 ⟨Nat.le_of_ble_eq_true rfl, Nat.le_of_ble_eq_true rfl⟩ rfl (Nat.le_of_ble_eq_true rfl) ⟨Nat.zero_le _, Nat.zero_le _⟩ ⟨rfl, rfl, rfl, rfl, by decide, fun _ => rfl, rfl⟩ (fun u hu1 => ?_)
  show fk_V E _ K (0, 0) [(a0, .inr (1, [.ref a1, .ref a2, .ref a3, .int (nI tr)])), fk_ai E a1 20 len] 4 [(0, .ref a0)] [.int (nI (Bool.toNat (decide (tr = 20))))]
  refine fk_if_eqB (b := (decide (tr = 20))) d_Lg_addTrace_4 rfl (fun h4t => ?_) (fun h4f => ?_)
  · refine fk_aload_n 0 d_Lg_addTrace_10 rfl ?_
    refine fk_get 0 0 rfl rfl fh_Lg (Nat.le_of_ble_eq_true rfl) fw_24 rfl d_Lg_addTrace_11 ?_
    refine fk_aload_n 0 d_Lg_addTrace_14 rfl ?_
    refine fk_get 0 3 rfl rfl fh_Lg (Nat.le_of_ble_eq_true rfl) fw_27 rfl d_Lg_addTrace_15 ?_
    refine fk_iconst (v := nI 0) d_Lg_addTrace_18 (by decide +kernel) ?_
    refine fk_st_ai (i := tr) (x := 0) (w' := [(a0, .inr (1, [.ref a1, .ref a2, .ref a3, .int (nI tr)])), fk_ai E a1 20 (va_up len tr 0)]) 1 rfl (by omega) (by decide) d_Lg_addTrace_19 rfl ?_
    refine fk_aload_n 0 d_Lg_addTrace_20 rfl ?_
    refine fk_dup d_Lg_addTrace_21 rfl ?_
    refine fk_get 0 3 rfl rfl fh_Lg (Nat.le_of_ble_eq_true rfl) fw_27 rfl d_Lg_addTrace_22 ?_
    refine fk_iconst (v := nI 1) d_Lg_addTrace_25 (by decide +kernel) ?_
    refine fk_iadd (a := tr) (b := 1) d_Lg_addTrace_26 ?_
    refine fk_put (w' := [(a0, .inr (1, [.ref a1, .ref a2, .ref a3, .int (nI (tr + 1))])), fk_ai E a1 20 (va_up len tr 0)]) 0 3 fT_Lg fT_Lg_ok fT_Lg_nm rfl rfl fh_Lg (Nat.le_of_ble_eq_true rfl) fw_27 rfl (fT_Lg_ok 3 (Nat.le_of_ble_eq_true rfl)) rfl rfl (Nat.le_of_ble_eq_true rfl) d_Lg_addTrace_27 rfl ?_
    refine fk_aload_n 0 d_Lg_addTrace_30 rfl ?_
    refine fk_get 0 3 rfl rfl fh_Lg (Nat.le_of_ble_eq_true rfl) fw_27 rfl d_Lg_addTrace_31 ?_
    refine fk_iconst (v := nI 1) d_Lg_addTrace_34 (by decide +kernel) ?_
    refine fk_isub (a := (tr + 1)) (b := 1) d_Lg_addTrace_35 (by omega) ?_
    refine fk_top (congrArg nI (show (tr + 1) - 1 = tr from by first | omega | simp_all)) ?_
    exact hret (0, 0) _ 36 _ () d_Lg_addTrace_36 (trivial) (rfl)
  · exact absurd (of_decide_eq_true h4f) (by omega)
theorem d_Ar_fillI_0 : decode prog_10_method_103_code 0 = .ok (.iconst 0, 1) := by decide +kernel
theorem d_Ar_fillI_1 : decode prog_10_method_103_code 1 = .ok (.istore_n 2, 1) := by decide +kernel
theorem d_Ar_fillI_2 : decode prog_10_method_103_code 2 = .ok (.aload_n 0, 1) := by decide +kernel
theorem d_Ar_fillI_3 : decode prog_10_method_103_code 3 = .ok (.arraylength, 1) := by decide +kernel
theorem d_Ar_fillI_4 : decode prog_10_method_103_code 4 = .ok (.istore_n 3, 1) := by decide +kernel
theorem d_Ar_fillI_5 : decode prog_10_method_103_code 5 = .ok (.iload_n 2, 1) := by decide +kernel
theorem d_Ar_fillI_6 : decode prog_10_method_103_code 6 = .ok (.iload_n 3, 1) := by decide +kernel
theorem d_Ar_fillI_7 : decode prog_10_method_103_code 7 = .ok (.if_icmp .ge 13, 3) := by decide +kernel
theorem d_Ar_fillI_10 : decode prog_10_method_103_code 10 = .ok (.aload_n 0, 1) := by decide +kernel
theorem d_Ar_fillI_11 : decode prog_10_method_103_code 11 = .ok (.iload_n 2, 1) := by decide +kernel
theorem d_Ar_fillI_12 : decode prog_10_method_103_code 12 = .ok (.iload_n 1, 1) := by decide +kernel
theorem d_Ar_fillI_13 : decode prog_10_method_103_code 13 = .ok (.iastore, 1) := by decide +kernel
theorem d_Ar_fillI_14 : decode prog_10_method_103_code 14 = .ok (.iinc 2 1, 3) := by decide +kernel
theorem d_Ar_fillI_17 : decode prog_10_method_103_code 17 = .ok (.goto (-12), 3) := by decide +kernel
theorem d_Ar_fillI_20 : decode prog_10_method_103_code 20 = .ok (.return_, 1) := by decide +kernel
set_option maxRecDepth 20000 in
set_option maxHeartbeats 4000000 in
theorem cA_fillI (E : fk_E) (a : Nat) (N : Nat) (v : Nat) (g : Nat → Nat) (hN : N < 2 ^ 31) : fk_C E fy_Ar_fillI prog_10_method_103_code 4 none 0 0 0 [.ref a, .int (nI v)] [fk_ai E a N g] (S := (Nat → Nat)) (fun u => none) (fun u => ∀ k, k < N → u k = v) (fun u => [fk_ai E a N u]) := by
  refine fk_enterV (by decide) (Nat.le_of_ble_eq_true rfl) (lv0 := [(0, .ref a), (1, .int (nI v))]) rfl ?_
  intro K hini hret
  refine fk_iconst (v := nI 0) d_Ar_fillI_0 (by decide +kernel) ?_
  refine fk_istore_n (lv' := [(0, .ref a), (1, .int (nI v)), (2, .int (nI 0))]) d_Ar_fillI_1 rfl (Nat.le_of_ble_eq_true rfl) [1, 2, 0] rfl ?_
  refine fk_aload_n 0 d_Ar_fillI_2 rfl ?_
  refine fk_alen (t0 := 0) 0 rfl rfl d_Ar_fillI_3 ?_
  refine fk_istore_n (lv' := [(0, .ref a), (1, .int (nI v)), (2, .int (nI 0)), (3, .int (nI N))]) d_Ar_fillI_4 rfl (Nat.le_of_ble_eq_true rfl) [1, 2, 3, 0] rfl ?_
  have L5 : ∀ (fuel : Nat) (i : Nat) (g1 : Nat → Nat), (i ≤ N) → (∀ k, k < i → g1 k = v) → N - i < fuel → fk_V E (prog_10_method_103_code, fy_Ar_fillI.cls, 4, fk_rm 0 0 0) K (0, 0) [fk_ai E a N g1] 5 [(0, .ref a), (1, .int (nI v)), (2, .int (nI i)), (3, .int (nI N))] [] := by
    intro fuel
    induction fuel with
    | zero => intro i g1 _ _ hm; exact absurd hm (Nat.not_lt_zero _)
    | succ fuel ih =>
      intro i g1 hi hg hm5
      have ih5 := ih
      clear ih
      refine fk_iload_n 2 d_Ar_fillI_5 rfl ?_
      refine fk_iload_n 3 d_Ar_fillI_6 rfl ?_
      refine fk_icmp_ge (a := i) (b := N) (by omega) (by omega) d_Ar_fillI_7 rfl (fun h7t => ?_) (fun h7f => ?_)
      · exact hret (0, 0) _ 20 _ g1 d_Ar_fillI_20 (fun k hk => hg k (by omega)) (rfl)
      · refine fk_aload_n 0 d_Ar_fillI_10 rfl ?_
        refine fk_iload_n 2 d_Ar_fillI_11 rfl ?_
        refine fk_iload_n 1 d_Ar_fillI_12 rfl ?_
        refine fk_st_ai (i := i) (x := v) (w' := [fk_ai E a N (va_up g1 i v)]) 0 rfl (by omega) (by omega) d_Ar_fillI_13 rfl ?_
        refine fk_iinc (j := 2) (lv' := [(0, .ref a), (1, .int (nI v)), (2, .int (nI (i + 1))), (3, .int (nI N))]) (i + 1) d_Ar_fillI_14 rfl (nI_1 i) (Nat.le_of_ble_eq_true rfl) [1, 2, 0, 3] rfl ?_
        refine fk_goto d_Ar_fillI_17 rfl ?_
        refine ih5 _ _ ?_ ?_ ?_
        · first | omega | assumption
        · intro k hk
          by_cases e : k = i
          · subst e
            exact va_up_self _ _ _
          · rw [va_up_ne _ _ e]
            exact hg k (by omega)
        · omega
  refine L5 _ _ _ ?_ ?_ (Nat.lt_succ_self _)
  · first | omega | assumption
  · exact fun k hk => absurd hk (Nat.not_lt_zero k)
theorem d_Ar_fillJ_0 : decode prog_10_method_101_code 0 = .ok (.iconst 0, 1) := by decide +kernel
theorem d_Ar_fillJ_1 : decode prog_10_method_101_code 1 = .ok (.istore_n 3, 1) := by decide +kernel
theorem d_Ar_fillJ_2 : decode prog_10_method_101_code 2 = .ok (.aload_n 0, 1) := by decide +kernel
theorem d_Ar_fillJ_3 : decode prog_10_method_101_code 3 = .ok (.arraylength, 1) := by decide +kernel
theorem d_Ar_fillJ_4 : decode prog_10_method_101_code 4 = .ok (.istore 4, 2) := by decide +kernel
theorem d_Ar_fillJ_6 : decode prog_10_method_101_code 6 = .ok (.iload_n 3, 1) := by decide +kernel
theorem d_Ar_fillJ_7 : decode prog_10_method_101_code 7 = .ok (.iload 4, 2) := by decide +kernel
theorem d_Ar_fillJ_9 : decode prog_10_method_101_code 9 = .ok (.if_icmp .ge 13, 3) := by decide +kernel
theorem d_Ar_fillJ_12 : decode prog_10_method_101_code 12 = .ok (.aload_n 0, 1) := by decide +kernel
theorem d_Ar_fillJ_13 : decode prog_10_method_101_code 13 = .ok (.iload_n 3, 1) := by decide +kernel
theorem d_Ar_fillJ_14 : decode prog_10_method_101_code 14 = .ok (.lload_n 1, 1) := by decide +kernel
theorem d_Ar_fillJ_15 : decode prog_10_method_101_code 15 = .ok (.lastore, 1) := by decide +kernel
theorem d_Ar_fillJ_16 : decode prog_10_method_101_code 16 = .ok (.iinc 3 1, 3) := by decide +kernel
theorem d_Ar_fillJ_19 : decode prog_10_method_101_code 19 = .ok (.goto (-13), 3) := by decide +kernel
theorem d_Ar_fillJ_22 : decode prog_10_method_101_code 22 = .ok (.return_, 1) := by decide +kernel
set_option maxRecDepth 20000 in
set_option maxHeartbeats 4000000 in
theorem cA_fillJ (E : fk_E) (a : Nat) (N : Nat) (v : Nat) (g : Nat → Nat) (hN : N < 2 ^ 31) : fk_C E fy_Ar_fillJ prog_10_method_101_code 5 none 0 0 0 [.ref a, .long (lN v)] [fk_al E a N g] (S := (Nat → Nat)) (fun u => none) (fun u => ∀ k, k < N → u k = v) (fun u => [fk_al E a N u]) := by
  refine fk_enterV (by decide) (Nat.le_of_ble_eq_true rfl) (lv0 := [(0, .ref a), (1, .long (lN v))]) rfl ?_
  intro K hini hret
  refine fk_iconst (v := nI 0) d_Ar_fillJ_0 (by decide +kernel) ?_
  refine fk_istore_n (lv' := [(0, .ref a), (1, .long (lN v)), (3, .int (nI 0))]) d_Ar_fillJ_1 rfl (Nat.le_of_ble_eq_true rfl) [1, 2, 0] rfl ?_
  refine fk_aload_n 0 d_Ar_fillJ_2 rfl ?_
  refine fk_alen (t0 := 1) 0 rfl rfl d_Ar_fillJ_3 ?_
  refine fk_istore (lv' := [(0, .ref a), (1, .long (lN v)), (3, .int (nI 0)), (4, .int (nI N))]) d_Ar_fillJ_4 (Nat.le_of_ble_eq_true rfl) [1, 2, 3, 0] rfl ?_
  have L6 : ∀ (fuel : Nat) (i : Nat) (g1 : Nat → Nat), (i ≤ N) → (∀ k, k < i → g1 k = v) → N - i < fuel → fk_V E (prog_10_method_101_code, fy_Ar_fillJ.cls, 5, fk_rm 0 0 0) K (0, 0) [fk_al E a N g1] 6 [(0, .ref a), (1, .long (lN v)), (3, .int (nI i)), (4, .int (nI N))] [] := by
    intro fuel
    induction fuel with
    | zero => intro i g1 _ _ hm; exact absurd hm (Nat.not_lt_zero _)
    | succ fuel ih =>
      intro i g1 hi hg hm6
      have ih6 := ih
      clear ih
      refine fk_iload_n 2 d_Ar_fillJ_6 rfl ?_
      refine fk_iload 3 d_Ar_fillJ_7 rfl ?_
      refine fk_icmp_ge (a := i) (b := N) (by omega) (by omega) d_Ar_fillJ_9 rfl (fun h9t => ?_) (fun h9f => ?_)
      · exact hret (0, 0) _ 22 _ g1 d_Ar_fillJ_22 (fun k hk => hg k (by omega)) (rfl)
      · refine fk_aload_n 0 d_Ar_fillJ_12 rfl ?_
        refine fk_iload_n 2 d_Ar_fillJ_13 rfl ?_
        refine fk_lload_n 1 d_Ar_fillJ_14 rfl ?_
        refine fk_st_al (i := i) (x := v) (w' := [fk_al E a N (va_up g1 i v)]) 0 rfl (by omega) (by omega) d_Ar_fillJ_15 rfl ?_
        refine fk_iinc (j := 2) (lv' := [(0, .ref a), (1, .long (lN v)), (3, .int (nI (i + 1))), (4, .int (nI N))]) (i + 1) d_Ar_fillJ_16 rfl (nI_1 i) (Nat.le_of_ble_eq_true rfl) [1, 2, 0, 3] rfl ?_
        refine fk_goto d_Ar_fillJ_19 rfl ?_
        refine ih6 _ _ ?_ ?_ ?_
        · first | omega | assumption
        · intro k hk
          by_cases e : k = i
          · subst e
            exact va_up_self _ _ _
          · rw [va_up_ne _ _ e]
            exact hg k (by omega)
        · omega
  refine L6 _ _ _ ?_ ?_ (Nat.lt_succ_self _)
  · first | omega | assumption
  · exact fun k hk => absurd hk (Nat.not_lt_zero k)
theorem d_Lg_removeTraces_0 : decode prog_2_method_9_code 0 = .ok (.aload_n 0, 1) := by decide +kernel
theorem d_Lg_removeTraces_1 : decode prog_2_method_9_code 1 = .ok (.iconst 0, 1) := by decide +kernel
theorem d_Lg_removeTraces_2 : decode prog_2_method_9_code 2 = .ok (.putfield 21, 3) := by decide +kernel
theorem d_Lg_removeTraces_5 : decode prog_2_method_9_code 5 = .ok (.aload_n 0, 1) := by decide +kernel
theorem d_Lg_removeTraces_6 : decode prog_2_method_9_code 6 = .ok (.getfield 18, 3) := by decide +kernel
theorem d_Lg_removeTraces_9 : decode prog_2_method_9_code 9 = .ok (.iconst 0, 1) := by decide +kernel
theorem d_Lg_removeTraces_10 : decode prog_2_method_9_code 10 = .ok (.invokestatic 40, 3) := by decide +kernel
theorem d_Lg_removeTraces_13 : decode prog_2_method_9_code 13 = .ok (.return_, 1) := by decide +kernel
set_option maxRecDepth 20000 in
set_option maxHeartbeats 4000000 in
theorem cL_removeTraces (E : fk_E) (a0 : Nat) (a1 : Nat) (a2 : Nat) (a3 : Nat) (tr : Nat) (fo : Nat → Nat)  : fk_C E fy_Lg_removeTraces prog_2_method_9_code 1 none 1 0 0 [.ref a0] [(a0, .inr (1, [.ref a1, .ref a2, .ref a3, .int (nI tr)])), fk_ai E a3 7 fo] (S := (Nat → Nat)) (fun u => none) (fun u => ∀ k, k < 7 → u k = 0) (fun u => [(a0, .inr (1, [.ref a1, .ref a2, .ref a3, .int (nI 0)])), fk_ai E a3 7 u]) := by
  refine fk_enterV (by decide) (Nat.le_of_ble_eq_true rfl) (lv0 := [(0, .ref a0)]) rfl ?_
  intro K hini hret
  refine fk_aload_n 0 d_Lg_removeTraces_0 rfl ?_
  refine fk_iconst (v := nI 0) d_Lg_removeTraces_1 (by decide +kernel) ?_
  refine fk_put (w' := [(a0, .inr (1, [.ref a1, .ref a2, .ref a3, .int (nI 0)])), fk_ai E a3 7 fo]) 0 3 fT_Lg fT_Lg_ok fT_Lg_nm rfl rfl fh_Lg (Nat.le_of_ble_eq_true rfl) fw_27 rfl (fT_Lg_ok 3 (Nat.le_of_ble_eq_true rfl)) rfl rfl (Nat.le_of_ble_eq_true rfl) d_Lg_removeTraces_2 rfl ?_
  refine fk_aload_n 0 d_Lg_removeTraces_5 rfl ?_
  refine fk_get 0 2 rfl rfl fh_Lg (Nat.le_of_ble_eq_true rfl) fw_26 rfl d_Lg_removeTraces_6 ?_
  refine fk_iconst (v := nI 0) d_Lg_removeTraces_9 (by decide +kernel) ?_
  refine fk_callS (As := [.ref a3, .int (nI 0)]) (rest := []) (is := [1]) (ir := [0]) (ip := [0, 1]) (wc := [fk_ai E a3 7 fo]) (wr := [(a0, .inr (1, [.ref a1, .ref a2, .ref a3, .int (nI 0)]))]) (w2 := fun u => [(a0, .inr (1, [.ref a1, .ref a2, .ref a3, .int (nI 0)])), fk_ai E a3 7 u]) (cA_fillI E a3 7 0 fo (by first | omega | assumption)) d_Lg_removeTraces_10 fz_Ar_fillI fw_188 fw_189 ⟨Nat.le_of_ble_eq_true rfl, Nat.le_of_ble_eq_true rfl⟩ rfl (Nat.le_of_ble_eq_true rfl) ⟨Nat.zero_le _, Nat.zero_le _⟩ ⟨rfl, rfl, rfl, rfl, by decide, fun _ => rfl, rfl⟩ (fun u hu10 => ?_)
  obtain ⟨g9_10, rfl⟩ : ∃ z, z = u := ⟨_, rfl⟩
  have hq10 : ∀ k, k < 7 → g9_10 k = 0 := hu10
  show fk_V E _ K (0, 0) [(a0, .inr (1, [.ref a1, .ref a2, .ref a3, .int (nI 0)])), fk_ai E a3 7 g9_10] 13 [(0, .ref a0)] []
  exact hret (0, 0) _ 13 _ g9_10 d_Lg_removeTraces_13 (hq10) (rfl)
theorem d_Lg_isFollowed_0 : decode prog_2_method_10_code 0 = .ok (.iload_n 2, 1) := by decide +kernel
theorem d_Lg_isFollowed_1 : decode prog_2_method_10_code 1 = .ok (.aload_n 0, 1) := by decide +kernel
theorem d_Lg_isFollowed_2 : decode prog_2_method_10_code 2 = .ok (.getfield 18, 3) := by decide +kernel
theorem d_Lg_isFollowed_5 : decode prog_2_method_10_code 5 = .ok (.iload_n 1, 1) := by decide +kernel
theorem d_Lg_isFollowed_6 : decode prog_2_method_10_code 6 = .ok (.iaload, 1) := by decide +kernel
theorem d_Lg_isFollowed_7 : decode prog_2_method_10_code 7 = .ok (.invokestatic 46, 3) := by decide +kernel
theorem d_Lg_isFollowed_10 : decode prog_2_method_10_code 10 = .ok (.ireturn, 1) := by decide +kernel
set_option maxRecDepth 20000 in
set_option maxHeartbeats 4000000 in
theorem cL_isFollowed (E : fk_E) (a0 : Nat) (a1 : Nat) (a2 : Nat) (a3 : Nat) (tr : Nat) (fo : Nat → Nat) (a : Nat) (b : Nat) (ha : a < 7) (hb : b < 7) (hf : ∀ k, k < 7 → fo k < 128) : fk_C E fy_Lg_isFollowed prog_2_method_10_code 3 (some .boolean) 1 0 0 [.ref a0, .int (nI a), .int (nI b)] [(a0, .inr (1, [.ref a1, .ref a2, .ref a3, .int (nI tr)])), fk_ai E a3 7 fo] (S := Unit) (fun _ => some (.int (nI (Bool.toNat (Nat.testBit (fo a) b))))) (fun _ => True) (fun _ => [(a0, .inr (1, [.ref a1, .ref a2, .ref a3, .int (nI tr)])), fk_ai E a3 7 fo]) := by
  refine fk_enterZ (v := fun _ => Nat.testBit (fo a) b) (by decide) (Nat.le_of_ble_eq_true rfl) (lv0 := [(0, .ref a0), (1, .int (nI a)), (2, .int (nI b))]) rfl ?_
  intro K hini hret
  refine fk_iload_n 2 d_Lg_isFollowed_0 rfl ?_
  refine fk_aload_n 0 d_Lg_isFollowed_1 rfl ?_
  refine fk_get 0 2 rfl rfl fh_Lg (Nat.le_of_ble_eq_true rfl) fw_26 rfl d_Lg_isFollowed_2 ?_
  refine fk_iload_n 1 d_Lg_isFollowed_5 rfl ?_
  refine fk_ld_ai (i := a) 1 rfl (by omega) (by decide) d_Lg_isFollowed_6 ?_
  have h9 := hf a ha
  refine fk_callSN (As := [.int (nI b), .int (nI (fo a))]) (rest := []) (is := []) (ir := [0, 1]) (ip := [0, 1]) (wc := []) (wr := [(a0, .inr (1, [.ref a1, .ref a2, .ref a3, .int (nI tr)])), fk_ai E a3 7 fo]) (w2 := fun _ => [(a0, .inr (1, [.ref a1, .ref a2, .ref a3, .int (nI tr)])), fk_ai E a3 7 fo]) (cF_isIn E b (fo a) (by first | omega | assumption) (by first | omega | assumption)) d_Lg_isFollowed_7 fz_F_isIn fw_222 fw_223 ⟨Nat.le_of_ble_eq_true rfl, Nat.le_of_ble_eq_true rfl⟩ rfl (Nat.le_of_ble_eq_true rfl) ⟨Nat.zero_le _, Nat.zero_le _⟩ ⟨rfl, rfl, rfl, rfl, by decide, fun _ => rfl, rfl⟩ (fun u hu7 => ?_)
  show fk_V E _ K (0, 0) [(a0, .inr (1, [.ref a1, .ref a2, .ref a3, .int (nI tr)])), fk_ai E a3 7 fo] 10 [(0, .ref a0), (1, .int (nI a)), (2, .int (nI b))] [.int (nI (Bool.toNat (Nat.testBit (fo a) b)))]
  exact hret (0, 0) _ 10 _ () d_Lg_isFollowed_10 (trivial) (rfl)
