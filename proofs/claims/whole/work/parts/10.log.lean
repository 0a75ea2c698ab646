theorem d_F_isActivity_0 : decode prog_1_method_21_code 0 = .ok (.iload_n 0, 1) := by decide +kernel
theorem d_F_isActivity_1 : decode prog_1_method_21_code 1 = .ok (.ifCond .lt 13, 3) := by decide +kernel
theorem d_F_isActivity_4 : decode prog_1_method_21_code 4 = .ok (.iload_n 0, 1) := by decide +kernel
theorem d_F_isActivity_5 : decode prog_1_method_21_code 5 = .ok (.bipush 7, 2) := by decide +kernel
theorem d_F_isActivity_7 : decode prog_1_method_21_code 7 = .ok (.if_icmp .ge 7, 3) := by decide +kernel
theorem d_F_isActivity_10 : decode prog_1_method_21_code 10 = .ok (.iconst 1, 1) := by decide +kernel
theorem d_F_isActivity_11 : decode prog_1_method_21_code 11 = .ok (.goto 4, 3) := by decide +kernel
theorem d_F_isActivity_14 : decode prog_1_method_21_code 14 = .ok (.iconst 0, 1) := by decide +kernel
theorem d_F_isActivity_15 : decode prog_1_method_21_code 15 = .ok (.ireturn, 1) := by decide +kernel
set_option maxRecDepth 20000 in
set_option maxHeartbeats 4000000 in
theorem cF_isActivity (E : fk_E) (a : Nat) (ha : a < 2 ^ 31) : fk_C E fy_F_isActivity prog_1_method_21_code 1 (some .boolean) 0 0 0 [.int (nI a)] [] (S := Unit) (fun _ => some (.int (nI (Bool.toNat (decide (a < 7)))))) (fun _ => True) (fun _ => []) := by
  refine fk_enterZ (v := fun _ => decide (a < 7)) (by decide) (Nat.le_of_ble_eq_true rfl) (lv0 := [(0, .int (nI a))]) rfl ?_
  intro K hini hret
  refine fk_iload_n 0 d_F_isActivity_0 rfl ?_
  refine fk_if_lt (by omega) d_F_isActivity_1 rfl ?_
  refine fk_iload_n 0 d_F_isActivity_4 rfl ?_
  refine fk_bipush (v := nI 7) d_F_isActivity_5 (by decide +kernel) ?_
  refine fk_icmp_ge (a := a) (b := 7) (by omega) (by omega) d_F_isActivity_7 rfl (fun h7t => ?_) (fun h7f => ?_)
  · refine fk_iconst (v := nI 0) d_F_isActivity_14 (by decide +kernel) ?_
    refine fk_top (fn_rf (b := decide (a < 7)) (by first | assumption | (simp; omega) | simp_all | (simp_all; omega))) ?_
    exact hret (0, 0) _ 15 _ () d_F_isActivity_15 (trivial) (rfl)
  · refine fk_iconst (v := nI 1) d_F_isActivity_10 (by decide +kernel) ?_
    refine fk_goto d_F_isActivity_11 rfl ?_
    refine fk_top (fn_rt (b := decide (a < 7)) (by first | assumption | (simp; omega) | simp_all | (simp_all; omega))) ?_
    exact hret (0, 0) _ 15 _ () d_F_isActivity_15 (trivial) (rfl)
set_option maxRecDepth 20000 in
set_option maxHeartbeats 4000000 in
theorem cF_isActivityM (E : fk_E) (x : Int32) (hx : x < 0) : fk_C E fy_F_isActivity prog_1_method_21_code 1 (some .boolean) 0 0 0 [.int x] [] (S := Unit) (fun _ => some (.int (nI (Bool.toNat false)))) (fun _ => True) (fun _ => []) := by
  refine fk_enterZ (v := fun _ => false) (by decide) (Nat.le_of_ble_eq_true rfl) (lv0 := [(0, .int x)]) rfl ?_
  intro K hini hret
  refine fk_iload_n 0 d_F_isActivity_0 rfl ?_
  refine fk_if_ltR d_F_isActivity_1 rfl (fun h1t => ?_) (fun h1f => ?_)
  · refine fk_iconst (v := nI 0) d_F_isActivity_14 (by decide +kernel) ?_
    refine fk_top (fn_rf (b := false) (by first | assumption | (simp; omega) | simp_all | (simp_all; omega))) ?_
    exact hret (0, 0) _ 15 _ () d_F_isActivity_15 (trivial) (rfl)
  · exact absurd hx h1f
theorem d_F_isSet_0 : decode prog_1_method_22_code 0 = .ok (.iload_n 0, 1) := by decide +kernel
theorem d_F_isSet_1 : decode prog_1_method_22_code 1 = .ok (.ifCond .lt 14, 3) := by decide +kernel
theorem d_F_isSet_4 : decode prog_1_method_22_code 4 = .ok (.iload_n 0, 1) := by decide +kernel
theorem d_F_isSet_5 : decode prog_1_method_22_code 5 = .ok (.sipush 128, 3) := by decide +kernel
theorem d_F_isSet_8 : decode prog_1_method_22_code 8 = .ok (.if_icmp .ge 7, 3) := by decide +kernel
theorem d_F_isSet_11 : decode prog_1_method_22_code 11 = .ok (.iconst 1, 1) := by decide +kernel
theorem d_F_isSet_12 : decode prog_1_method_22_code 12 = .ok (.goto 4, 3) := by decide +kernel
theorem d_F_isSet_15 : decode prog_1_method_22_code 15 = .ok (.iconst 0, 1) := by decide +kernel
theorem d_F_isSet_16 : decode prog_1_method_22_code 16 = .ok (.ireturn, 1) := by decide +kernel
set_option maxRecDepth 20000 in
set_option maxHeartbeats 4000000 in
theorem cF_isSet (E : fk_E) (a : Nat) (ha : a < 2 ^ 31) : fk_C E fy_F_isSet prog_1_method_22_code 1 (some .boolean) 0 0 0 [.int (nI a)] [] (S := Unit) (fun _ => some (.int (nI (Bool.toNat (decide (a < 128)))))) (fun _ => True) (fun _ => []) := by
  refine fk_enterZ (v := fun _ => decide (a < 128)) (by decide) (Nat.le_of_ble_eq_true rfl) (lv0 := [(0, .int (nI a))]) rfl ?_
  intro K hini hret
  refine fk_iload_n 0 d_F_isSet_0 rfl ?_
  refine fk_if_lt (by omega) d_F_isSet_1 rfl ?_
  refine fk_iload_n 0 d_F_isSet_4 rfl ?_
  refine fk_sipush (v := nI 128) d_F_isSet_5 (by decide +kernel) ?_
  refine fk_icmp_ge (a := a) (b := 128) (by omega) (by omega) d_F_isSet_8 rfl (fun h8t => ?_) (fun h8f => ?_)
  · refine fk_iconst (v := nI 0) d_F_isSet_15 (by decide +kernel) ?_
    refine fk_top (fn_rf (b := decide (a < 128)) (by first | assumption | (simp; omega) | simp_all | (simp_all; omega))) ?_
    exact hret (0, 0) _ 16 _ () d_F_isSet_16 (trivial) (rfl)
  · refine fk_iconst (v := nI 1) d_F_isSet_11 (by decide +kernel) ?_
    refine fk_goto d_F_isSet_12 rfl ?_
    refine fk_top (fn_rt (b := decide (a < 128)) (by first | assumption | (simp; omega) | simp_all | (simp_all; omega))) ?_
    exact hret (0, 0) _ 16 _ () d_F_isSet_16 (trivial) (rfl)
set_option maxRecDepth 20000 in
set_option maxHeartbeats 4000000 in
theorem cF_isSetM (E : fk_E) (x : Int32) (hx : x < 0) : fk_C E fy_F_isSet prog_1_method_22_code 1 (some .boolean) 0 0 0 [.int x] [] (S := Unit) (fun _ => some (.int (nI (Bool.toNat false)))) (fun _ => True) (fun _ => []) := by
  refine fk_enterZ (v := fun _ => false) (by decide) (Nat.le_of_ble_eq_true rfl) (lv0 := [(0, .int x)]) rfl ?_
  intro K hini hret
  refine fk_iload_n 0 d_F_isSet_0 rfl ?_
  refine fk_if_ltR d_F_isSet_1 rfl (fun h1t => ?_) (fun h1f => ?_)
  · refine fk_iconst (v := nI 0) d_F_isSet_15 (by decide +kernel) ?_
    refine fk_top (fn_rf (b := false) (by first | assumption | (simp; omega) | simp_all | (simp_all; omega))) ?_
    exact hret (0, 0) _ 16 _ () d_F_isSet_16 (trivial) (rfl)
  · exact absurd hx h1f
theorem d_F_isIn_0 : decode prog_1_method_23_code 0 = .ok (.iload_n 1, 1) := by decide +kernel
theorem d_F_isIn_1 : decode prog_1_method_23_code 1 = .ok (.iconst 1, 1) := by decide +kernel
theorem d_F_isIn_2 : decode prog_1_method_23_code 2 = .ok (.iload_n 0, 1) := by decide +kernel
theorem d_F_isIn_3 : decode prog_1_method_23_code 3 = .ok (.ishl, 1) := by decide +kernel
theorem d_F_isIn_4 : decode prog_1_method_23_code 4 = .ok (.iand, 1) := by decide +kernel
theorem d_F_isIn_5 : decode prog_1_method_23_code 5 = .ok (.ifCond .eq 7, 3) := by decide +kernel
theorem d_F_isIn_8 : decode prog_1_method_23_code 8 = .ok (.iconst 1, 1) := by decide +kernel
theorem d_F_isIn_9 : decode prog_1_method_23_code 9 = .ok (.goto 4, 3) := by decide +kernel
theorem d_F_isIn_12 : decode prog_1_method_23_code 12 = .ok (.iconst 0, 1) := by decide +kernel
theorem d_F_isIn_13 : decode prog_1_method_23_code 13 = .ok (.ireturn, 1) := by decide +kernel
set_option maxRecDepth 20000 in
set_option maxHeartbeats 4000000 in
theorem cF_isIn (E : fk_E) (a : Nat) (s : Nat) (ha : a < 31) (hs : s < 2 ^ 31) : fk_C E fy_F_isIn prog_1_method_23_code 2 (some .boolean) 0 0 0 [.int (nI a), .int (nI s)] [] (S := Unit) (fun _ => some (.int (nI (Bool.toNat (Nat.testBit s a))))) (fun _ => True) (fun _ => []) := by
  refine fk_enterZ (v := fun _ => Nat.testBit s a) (by decide) (Nat.le_of_ble_eq_true rfl) (lv0 := [(0, .int (nI a)), (1, .int (nI s))]) rfl ?_
  intro K hini hret
  refine fk_iload_n 1 d_F_isIn_0 rfl ?_
  refine fk_iconst (v := nI 1) d_F_isIn_1 (by decide +kernel) ?_
  refine fk_iload_n 0 d_F_isIn_2 rfl ?_
  refine fk_ishl (a := 1) (b := a) d_F_isIn_3 (by omega) (by have := fb_pow31 ha; omega) ?_
  refine fk_top (show nI (1 * 2 ^ a) = nI (2 ^ a) by rw [Nat.one_mul]) ?_
  refine fk_iand (a := s) (b := (2 ^ a)) d_F_isIn_4 ?_
  refine fk_if_eq (a := (s &&& (2 ^ a))) (Nat.lt_of_le_of_lt Nat.and_le_left hs) d_F_isIn_5 rfl (fun h5t => ?_) (fun h5f => ?_)
  · have h9 := fb_and.mp h5t
    refine fk_iconst (v := nI 0) d_F_isIn_12 (by decide +kernel) ?_
    refine fk_top (fn_rf (b := Nat.testBit s a) (by first | assumption | (simp; omega) | simp_all | (simp_all; omega))) ?_
    exact hret (0, 0) _ 13 _ () d_F_isIn_13 (trivial) (rfl)
  · have h9 := fb_and_ne.mp h5f
    refine fk_iconst (v := nI 1) d_F_isIn_8 (by decide +kernel) ?_
    refine fk_goto d_F_isIn_9 rfl ?_
    refine fk_top (fn_rt (b := Nat.testBit s a) (by first | assumption | (simp; omega) | simp_all | (simp_all; omega))) ?_
    exact hret (0, 0) _ 13 _ () d_F_isIn_13 (trivial) (rfl)
theorem d_Lg_isFull_0 : decode prog_2_method_2_code 0 = .ok (.aload_n 0, 1) := by decide +kernel
theorem d_Lg_isFull_1 : decode prog_2_method_2_code 1 = .ok (.getfield 21, 3) := by decide +kernel
theorem d_Lg_isFull_4 : decode prog_2_method_2_code 4 = .ok (.bipush 20, 2) := by decide +kernel
theorem d_Lg_isFull_6 : decode prog_2_method_2_code 6 = .ok (.if_icmp .ne 7, 3) := by decide +kernel
theorem d_Lg_isFull_9 : decode prog_2_method_2_code 9 = .ok (.iconst 1, 1) := by decide +kernel
theorem d_Lg_isFull_10 : decode prog_2_method_2_code 10 = .ok (.goto 4, 3) := by decide +kernel
theorem d_Lg_isFull_13 : decode prog_2_method_2_code 13 = .ok (.iconst 0, 1) := by decide +kernel
theorem d_Lg_isFull_14 : decode prog_2_method_2_code 14 = .ok (.ireturn, 1) := by decide +kernel
set_option maxRecDepth 20000 in
set_option maxHeartbeats 4000000 in
theorem cL_isFull (E : fk_E) (a0 : Nat) (a1 : Nat) (a2 : Nat) (a3 : Nat) (tr : Nat) (ht : tr ≤ 20) : fk_C E fy_Lg_isFull prog_2_method_2_code 1 (some .boolean) 0 0 0 [.ref a0] [(a0, .inr (1, [.ref a1, .ref a2, .ref a3, .int (nI tr)]))] (S := Unit) (fun _ => some (.int (nI (Bool.toNat (decide (tr = 20)))))) (fun _ => True) (fun _ => [(a0, .inr (1, [.ref a1, .ref a2, .ref a3, .int (nI tr)]))]) := by
  refine fk_enterZ (v := fun _ => decide (tr = 20)) (by decide) (Nat.le_of_ble_eq_true rfl) (lv0 := [(0, .ref a0)]) rfl ?_
  intro K hini hret
  refine fk_aload_n 0 d_Lg_isFull_0 rfl ?_
  refine fk_get 0 3 rfl rfl fh_Lg (Nat.le_of_ble_eq_true rfl) fw_27 rfl d_Lg_isFull_1 ?_
  refine fk_bipush (v := nI 20) d_Lg_isFull_4 (by decide +kernel) ?_
  refine fk_icmp_ne (a := tr) (b := 20) (by omega) (by omega) d_Lg_isFull_6 rfl (fun h6t => ?_) (fun h6f => ?_)
  · refine fk_iconst (v := nI 0) d_Lg_isFull_13 (by decide +kernel) ?_
    refine fk_top (fn_rf (b := decide (tr = 20)) (by first | assumption | (simp; omega) | simp_all | (simp_all; omega))) ?_
    exact hret (0, 0) _ 14 _ () d_Lg_isFull_14 (trivial) (rfl)
  · refine fk_iconst (v := nI 1) d_Lg_isFull_9 (by decide +kernel) ?_
    refine fk_goto d_Lg_isFull_10 rfl ?_
    refine fk_top (fn_rt (b := decide (tr = 20)) (by first | assumption | (simp; omega) | simp_all | (simp_all; omega))) ?_
    exact hret (0, 0) _ 14 _ () d_Lg_isFull_14 (trivial) (rfl)
theorem d_Lg_hasTrace_0 : decode prog_2_method_3_code 0 = .ok (.iload_n 1, 1) := by decide +kernel
theorem d_Lg_hasTrace_1 : decode prog_2_method_3_code 1 = .ok (.ifCond .lt 15, 3) := by decide +kernel
theorem d_Lg_hasTrace_4 : decode prog_2_method_3_code 4 = .ok (.iload_n 1, 1) := by decide +kernel
theorem d_Lg_hasTrace_5 : decode prog_2_method_3_code 5 = .ok (.aload_n 0, 1) := by decide +kernel
theorem d_Lg_hasTrace_6 : decode prog_2_method_3_code 6 = .ok (.getfield 21, 3) := by decide +kernel
theorem d_Lg_hasTrace_9 : decode prog_2_method_3_code 9 = .ok (.if_icmp .ge 7, 3) := by decide +kernel
theorem d_Lg_hasTrace_12 : decode prog_2_method_3_code 12 = .ok (.iconst 1, 1) := by decide +kernel
theorem d_Lg_hasTrace_13 : decode prog_2_method_3_code 13 = .ok (.goto 4, 3) := by decide +kernel
theorem d_Lg_hasTrace_16 : decode prog_2_method_3_code 16 = .ok (.iconst 0, 1) := by decide +kernel
theorem d_Lg_hasTrace_17 : decode prog_2_method_3_code 17 = .ok (.ireturn, 1) := by decide +kernel
set_option maxRecDepth 20000 in
set_option maxHeartbeats 4000000 in
theorem cL_hasTrace (E : fk_E) (a0 : Nat) (a1 : Nat) (a2 : Nat) (a3 : Nat) (tr : Nat) (t : Nat) (ht : tr ≤ 20) (h1 : t < 2 ^ 31) : fk_C E fy_Lg_hasTrace prog_2_method_3_code 2 (some .boolean) 0 0 0 [.ref a0, .int (nI t)] [(a0, .inr (1, [.ref a1, .ref a2, .ref a3, .int (nI tr)]))] (S := Unit) (fun _ => some (.int (nI (Bool.toNat (decide (t < tr)))))) (fun _ => True) (fun _ => [(a0, .inr (1, [.ref a1, .ref a2, .ref a3, .int (nI tr)]))]) := by
  refine fk_enterZ (v := fun _ => decide (t < tr)) (by decide) (Nat.le_of_ble_eq_true rfl) (lv0 := [(0, .ref a0), (1, .int (nI t))]) rfl ?_
  intro K hini hret
  refine fk_iload_n 1 d_Lg_hasTrace_0 rfl ?_
  refine fk_if_lt (by omega) d_Lg_hasTrace_1 rfl ?_
  refine fk_iload_n 1 d_Lg_hasTrace_4 rfl ?_
  refine fk_aload_n 0 d_Lg_hasTrace_5 rfl ?_
  refine fk_get 0 3 rfl rfl fh_Lg (Nat.le_of_ble_eq_true rfl) fw_27 rfl d_Lg_hasTrace_6 ?_
  refine fk_icmp_ge (a := t) (b := tr) (by omega) (by omega) d_Lg_hasTrace_9 rfl (fun h9t => ?_) (fun h9f => ?_)
  · refine fk_iconst (v := nI 0) d_Lg_hasTrace_16 (by decide +kernel) ?_
    refine fk_top (fn_rf (b := decide (t < tr)) (by first | assumption | (simp; omega) | simp_all | (simp_all; omega))) ?_
    exact hret (0, 0) _ 17 _ () d_Lg_hasTrace_17 (trivial) (rfl)
  · refine fk_iconst (v := nI 1) d_Lg_hasTrace_12 (by decide +kernel) ?_
    refine fk_goto d_Lg_hasTrace_13 rfl ?_
    refine fk_top (fn_rt (b := decide (t < tr)) (by first | assumption | (simp; omega) | simp_all | (simp_all; omega))) ?_
    exact hret (0, 0) _ 17 _ () d_Lg_hasTrace_17 (trivial) (rfl)
set_option maxRecDepth 20000 in
set_option maxHeartbeats 4000000 in
theorem cL_hasTraceM (E : fk_E) (a0 : Nat) (a1 : Nat) (a2 : Nat) (a3 : Nat) (tr : Nat) (x : Int32) (hx : x < 0) : fk_C E fy_Lg_hasTrace prog_2_method_3_code 2 (some .boolean) 0 0 0 [.ref a0, .int x] [(a0, .inr (1, [.ref a1, .ref a2, .ref a3, .int (nI tr)]))] (S := Unit) (fun _ => some (.int (nI (Bool.toNat false)))) (fun _ => True) (fun _ => [(a0, .inr (1, [.ref a1, .ref a2, .ref a3, .int (nI tr)]))]) := by
  refine fk_enterZ (v := fun _ => false) (by decide) (Nat.le_of_ble_eq_true rfl) (lv0 := [(0, .ref a0), (1, .int x)]) rfl ?_
  intro K hini hret
  refine fk_iload_n 1 d_Lg_hasTrace_0 rfl ?_
  refine fk_if_ltR d_Lg_hasTrace_1 rfl (fun h1t => ?_) (fun h1f => ?_)
  · refine fk_iconst (v := nI 0) d_Lg_hasTrace_16 (by decide +kernel) ?_
    refine fk_top (fn_rf (b := false) (by first | assumption | (simp; omega) | simp_all | (simp_all; omega))) ?_
    exact hret (0, 0) _ 17 _ () d_Lg_hasTrace_17 (trivial) (rfl)
  · exact absurd hx h1f
theorem d_Lg_lengthOf_0 : decode prog_2_method_5_code 0 = .ok (.aload_n 0, 1) := by decide +kernel
theorem d_Lg_lengthOf_1 : decode prog_2_method_5_code 1 = .ok (.getfield 9, 3) := by decide +kernel
theorem d_Lg_lengthOf_4 : decode prog_2_method_5_code 4 = .ok (.iload_n 1, 1) := by decide +kernel
theorem d_Lg_lengthOf_5 : decode prog_2_method_5_code 5 = .ok (.iaload, 1) := by decide +kernel
theorem d_Lg_lengthOf_6 : decode prog_2_method_5_code 6 = .ok (.ireturn, 1) := by decide +kernel
set_option maxRecDepth 20000 in
set_option maxHeartbeats 4000000 in
theorem cL_lengthOf (E : fk_E) (a0 : Nat) (a1 : Nat) (a2 : Nat) (a3 : Nat) (tr : Nat) (len : Nat → Nat) (t : Nat) (h1 : t < 20) : fk_C E fy_Lg_lengthOf prog_2_method_5_code 2 (some .int) 0 0 0 [.ref a0, .int (nI t)] [(a0, .inr (1, [.ref a1, .ref a2, .ref a3, .int (nI tr)])), fk_ai E a1 20 len] (S := Unit) (fun _ => some (.int (nI (len t)))) (fun _ => True) (fun _ => [(a0, .inr (1, [.ref a1, .ref a2, .ref a3, .int (nI tr)])), fk_ai E a1 20 len]) := by
  refine fk_enterI (v := fun _ => (nI (len t))) (by decide) (Nat.le_of_ble_eq_true rfl) (lv0 := [(0, .ref a0), (1, .int (nI t))]) rfl ?_
  intro K hini hret
  refine fk_aload_n 0 d_Lg_lengthOf_0 rfl ?_
  refine fk_get 0 0 rfl rfl fh_Lg (Nat.le_of_ble_eq_true rfl) fw_24 rfl d_Lg_lengthOf_1 ?_
  refine fk_iload_n 1 d_Lg_lengthOf_4 rfl ?_
  refine fk_ld_ai (i := t) 1 rfl (by omega) (by decide) d_Lg_lengthOf_5 ?_
  exact hret (0, 0) _ 6 _ () d_Lg_lengthOf_6 (trivial) (rfl)
theorem d_Lg_activityAt_0 : decode prog_2_method_6_code 0 = .ok (.aload_n 0, 1) := by decide +kernel
theorem d_Lg_activityAt_1 : decode prog_2_method_6_code 1 = .ok (.getfield 15, 3) := by decide +kernel
theorem d_Lg_activityAt_4 : decode prog_2_method_6_code 4 = .ok (.iload_n 1, 1) := by decide +kernel
theorem d_Lg_activityAt_5 : decode prog_2_method_6_code 5 = .ok (.bipush 15, 2) := by decide +kernel
theorem d_Lg_activityAt_7 : decode prog_2_method_6_code 7 = .ok (.imul, 1) := by decide +kernel
theorem d_Lg_activityAt_8 : decode prog_2_method_6_code 8 = .ok (.iload_n 2, 1) := by decide +kernel
theorem d_Lg_activityAt_9 : decode prog_2_method_6_code 9 = .ok (.iadd, 1) := by decide +kernel
theorem d_Lg_activityAt_10 : decode prog_2_method_6_code 10 = .ok (.iaload, 1) := by decide +kernel
theorem d_Lg_activityAt_11 : decode prog_2_method_6_code 11 = .ok (.ireturn, 1) := by decide +kernel
set_option maxRecDepth 20000 in
set_option maxHeartbeats 4000000 in
theorem cL_activityAt (E : fk_E) (a0 : Nat) (a1 : Nat) (a2 : Nat) (a3 : Nat) (tr : Nat) (ev : Nat → Nat) (t : Nat) (i : Nat) (h1 : 15 * t + i < 300) : fk_C E fy_Lg_activityAt prog_2_method_6_code 3 (some .int) 0 0 0 [.ref a0, .int (nI t), .int (nI i)] [(a0, .inr (1, [.ref a1, .ref a2, .ref a3, .int (nI tr)])), fk_ai E a2 300 ev] (S := Unit) (fun _ => some (.int (nI (ev (15 * t + i))))) (fun _ => True) (fun _ => [(a0, .inr (1, [.ref a1, .ref a2, .ref a3, .int (nI tr)])), fk_ai E a2 300 ev]) := by
  refine fk_enterI (v := fun _ => (nI (ev (15 * t + i)))) (by decide) (Nat.le_of_ble_eq_true rfl) (lv0 := [(0, .ref a0), (1, .int (nI t)), (2, .int (nI i))]) rfl ?_
  intro K hini hret
  refine fk_aload_n 0 d_Lg_activityAt_0 rfl ?_
  refine fk_get 0 1 rfl rfl fh_Lg (Nat.le_of_ble_eq_true rfl) fw_25 rfl d_Lg_activityAt_1 ?_
  refine fk_iload_n 1 d_Lg_activityAt_4 rfl ?_
  refine fk_bipush (v := nI 15) d_Lg_activityAt_5 (by decide +kernel) ?_
  refine fk_imul (a := t) (b := 15) d_Lg_activityAt_7 ?_
  refine fk_iload_n 2 d_Lg_activityAt_8 rfl ?_
  refine fk_iadd (a := (t * 15)) (b := i) d_Lg_activityAt_9 ?_
  refine fk_top (show (nI ((t * 15) + i)) = (nI (15 * t + i)) from congrArg nI (by omega)) ?_
  refine fk_ld_ai (i := (15 * t + i)) 1 rfl (by omega) (by decide) d_Lg_activityAt_10 ?_
  exact hret (0, 0) _ 11 _ () d_Lg_activityAt_11 (trivial) (rfl)
theorem d_Lg_hasEvent_0 : decode prog_2_method_4_code 0 = .ok (.aload_n 0, 1) := by decide +kernel
theorem d_Lg_hasEvent_1 : decode prog_2_method_4_code 1 = .ok (.iload_n 1, 1) := by decide +kernel
theorem d_Lg_hasEvent_2 : decode prog_2_method_4_code 2 = .ok (.invokevirtual 25, 3) := by decide +kernel
theorem d_Lg_hasEvent_5 : decode prog_2_method_4_code 5 = .ok (.ifCond .eq 21, 3) := by decide +kernel
theorem d_Lg_hasEvent_8 : decode prog_2_method_4_code 8 = .ok (.iload_n 2, 1) := by decide +kernel
theorem d_Lg_hasEvent_9 : decode prog_2_method_4_code 9 = .ok (.ifCond .lt 17, 3) := by decide +kernel
theorem d_Lg_hasEvent_12 : decode prog_2_method_4_code 12 = .ok (.iload_n 2, 1) := by decide +kernel
theorem d_Lg_hasEvent_13 : decode prog_2_method_4_code 13 = .ok (.aload_n 0, 1) := by decide +kernel
theorem d_Lg_hasEvent_14 : decode prog_2_method_4_code 14 = .ok (.getfield 9, 3) := by decide +kernel
theorem d_Lg_hasEvent_17 : decode prog_2_method_4_code 17 = .ok (.iload_n 1, 1) := by decide +kernel
theorem d_Lg_hasEvent_18 : decode prog_2_method_4_code 18 = .ok (.iaload, 1) := by decide +kernel
theorem d_Lg_hasEvent_19 : decode prog_2_method_4_code 19 = .ok (.if_icmp .ge 7, 3) := by decide +kernel
theorem d_Lg_hasEvent_22 : decode prog_2_method_4_code 22 = .ok (.iconst 1, 1) := by decide +kernel
theorem d_Lg_hasEvent_23 : decode prog_2_method_4_code 23 = .ok (.goto 4, 3) := by decide +kernel
theorem d_Lg_hasEvent_26 : decode prog_2_method_4_code 26 = .ok (.iconst 0, 1) := by decide +kernel
theorem d_Lg_hasEvent_27 : decode prog_2_method_4_code 27 = .ok (.ireturn, 1) := by decide +kernel
set_option maxRecDepth 20000 in
set_option maxHeartbeats 4000000 in
theorem cL_hasEvent (E : fk_E) (a0 : Nat) (a1 : Nat) (a2 : Nat) (a3 : Nat) (tr : Nat) (len : Nat → Nat) (t : Nat) (i : Nat) (ht : tr ≤ 20) (h1 : t < 2 ^ 31) (h2 : i < 2 ^ 31) (h3 : ∀ k, k < 20 → len k ≤ 15) : fk_C E fy_Lg_hasEvent prog_2_method_4_code 3 (some .boolean) 1 0 0 [.ref a0, .int (nI t), .int (nI i)] [(a0, .inr (1, [.ref a1, .ref a2, .ref a3, .int (nI tr)])), fk_ai E a1 20 len] (S := Unit) (fun _ => some (.int (nI (Bool.toNat (decide (t < tr ∧ i < len t)))))) (fun _ => True) (fun _ => [(a0, .inr (1, [.ref a1, .ref a2, .ref a3, .int (nI tr)])), fk_ai E a1 20 len]) := by
  refine fk_enterZ (v := fun _ => decide (t < tr ∧ i < len t)) (by decide) (Nat.le_of_ble_eq_true rfl) (lv0 := [(0, .ref a0), (1, .int (nI t)), (2, .int (nI i))]) rfl ?_
  intro K hini hret
  refine fk_aload_n 0 d_Lg_hasEvent_0 rfl ?_
  refine fk_iload_n 1 d_Lg_hasEvent_1 rfl ?_
  refine fk_callV (q0 := 0) (As := [.int (nI t)]) (rest := []) (is := [0]) (ir := [1]) (ip := [1, 0]) (wc := [(a0, .inr (1, [.ref a1, .ref a2, .ref a3, .int (nI tr)]))]) (wr := [fk_ai E a1 20 len]) (w2 := fun _ => [(a0, .inr (1, [.ref a1, .ref a2, .ref a3, .int (nI tr)])), fk_ai E a1 20 len]) (cL_hasTrace E a0 a1 a2 a3 tr t (by first | omega | assumption) (by first | omega | assumption)) d_Lg_hasEvent_2 fz_Lg_hasTrace fw_211 rfl rfl fw_196 fw_197 ⟨Nat.le_of_ble_eq_true rfl, Nat.le_of_ble_eq_true rfl⟩ rfl (Nat.le_of_ble_eq_true rfl) ⟨Nat.zero_le _, Nat.zero_le _⟩ ⟨rfl, rfl, rfl, rfl, by decide, fun _ => rfl, rfl⟩ (fun u hu2 => ?_)
  show fk_V E _ K (0, 0) [(a0, .inr (1, [.ref a1, .ref a2, .ref a3, .int (nI tr)])), fk_ai E a1 20 len] 5 [(0, .ref a0), (1, .int (nI t)), (2, .int (nI i))] [.int (nI (Bool.toNat (decide (t < tr))))]
  refine fk_if_eqB (b := (decide (t < tr))) d_Lg_hasEvent_5 rfl (fun h5t => ?_) (fun h5f => ?_)
  · have h9 : ¬ t < tr := of_decide_eq_false h5t
    refine fk_iconst (v := nI 0) d_Lg_hasEvent_26 (by decide +kernel) ?_
    refine fk_top (fn_rf (b := decide (t < tr ∧ i < len t)) (by first | assumption | (simp; omega) | simp_all | (simp_all; omega))) ?_
    exact hret (0, 0) _ 27 _ () d_Lg_hasEvent_27 (trivial) (rfl)
  · have h9 : t < tr := of_decide_eq_true h5f
    have h8 := h3 t (by omega)
    refine fk_iload_n 2 d_Lg_hasEvent_8 rfl ?_
    refine fk_if_lt (by omega) d_Lg_hasEvent_9 rfl ?_
    refine fk_iload_n 2 d_Lg_hasEvent_12 rfl ?_
    refine fk_aload_n 0 d_Lg_hasEvent_13 rfl ?_
    refine fk_get 0 0 rfl rfl fh_Lg (Nat.le_of_ble_eq_true rfl) fw_24 rfl d_Lg_hasEvent_14 ?_
    refine fk_iload_n 1 d_Lg_hasEvent_17 rfl ?_
    refine fk_ld_ai (i := t) 1 rfl (by omega) (by decide) d_Lg_hasEvent_18 ?_
    refine fk_icmp_ge (a := i) (b := (len t)) (by omega) (by omega) d_Lg_hasEvent_19 rfl (fun h19t => ?_) (fun h19f => ?_)
    · refine fk_iconst (v := nI 0) d_Lg_hasEvent_26 (by decide +kernel) ?_
      refine fk_top (fn_rf (b := decide (t < tr ∧ i < len t)) (by first | assumption | (simp; omega) | simp_all | (simp_all; omega))) ?_
      exact hret (0, 0) _ 27 _ () d_Lg_hasEvent_27 (trivial) (rfl)
    · refine fk_iconst (v := nI 1) d_Lg_hasEvent_22 (by decide +kernel) ?_
      refine fk_goto d_Lg_hasEvent_23 rfl ?_
      refine fk_top (fn_rt (b := decide (t < tr ∧ i < len t)) (by first | assumption | (simp; omega) | simp_all | (simp_all; omega))) ?_
      exact hret (0, 0) _ 27 _ () d_Lg_hasEvent_27 (trivial) (rfl)
set_option maxRecDepth 20000 in
set_option maxHeartbeats 4000000 in
theorem cL_hasEventM (E : fk_E) (a0 : Nat) (a1 : Nat) (a2 : Nat) (a3 : Nat) (tr : Nat) (len : Nat → Nat) (t : Nat) (x : Int32) (ht : tr ≤ 20) (h1 : t < 2 ^ 31) (hx : x < 0) : fk_C E fy_Lg_hasEvent prog_2_method_4_code 3 (some .boolean) 1 0 0 [.ref a0, .int (nI t), .int x] [(a0, .inr (1, [.ref a1, .ref a2, .ref a3, .int (nI tr)])), fk_ai E a1 20 len] (S := Unit) (fun _ => some (.int (nI (Bool.toNat false)))) (fun _ => True) (fun _ => [(a0, .inr (1, [.ref a1, .ref a2, .ref a3, .int (nI tr)])), fk_ai E a1 20 len]) := by
  refine fk_enterZ (v := fun _ => false) (by decide) (Nat.le_of_ble_eq_true rfl) (lv0 := [(0, .ref a0), (1, .int (nI t)), (2, .int x)]) rfl ?_
  intro K hini hret
  refine fk_aload_n 0 d_Lg_hasEvent_0 rfl ?_
  refine fk_iload_n 1 d_Lg_hasEvent_1 rfl ?_
  refine fk_callV (q0 := 0) (As := [.int (nI t)]) (rest := []) (is := [0]) (ir := [1]) (ip := [1, 0]) (wc := [(a0, .inr (1, [.ref a1, .ref a2, .ref a3, .int (nI tr)]))]) (wr := [fk_ai E a1 20 len]) (w2 := fun _ => [(a0, .inr (1, [.ref a1, .ref a2, .ref a3, .int (nI tr)])), fk_ai E a1 20 len]) (cL_hasTrace E a0 a1 a2 a3 tr t (by first | omega | assumption) (by first | omega | assumption)) d_Lg_hasEvent_2 fz_Lg_hasTrace fw_211 rfl rfl fw_196 fw_197 ⟨Nat.le_of_ble_eq_true rfl, Nat.le_of_ble_eq_true rfl⟩ rfl (Nat.le_of_ble_eq_true rfl) ⟨Nat.zero_le _, Nat.zero_le _⟩ ⟨rfl, rfl, rfl, rfl, by decide, fun _ => rfl, rfl⟩ (fun u hu2 => ?_)
  show fk_V E _ K (0, 0) [(a0, .inr (1, [.ref a1, .ref a2, .ref a3, .int (nI tr)])), fk_ai E a1 20 len] 5 [(0, .ref a0), (1, .int (nI t)), (2, .int x)] [.int (nI (Bool.toNat (decide (t < tr))))]
  refine fk_if_eqB (b := (decide (t < tr))) d_Lg_hasEvent_5 rfl (fun h5t => ?_) (fun h5f => ?_)
  · refine fk_iconst (v := nI 0) d_Lg_hasEvent_26 (by decide +kernel) ?_
    refine fk_top (fn_rf (b := false) (by first | assumption | (simp; omega) | simp_all | (simp_all; omega))) ?_
    exact hret (0, 0) _ 27 _ () d_Lg_hasEvent_27 (trivial) (rfl)
  · refine fk_iload_n 2 d_Lg_hasEvent_8 rfl ?_
    refine fk_if_ltR d_Lg_hasEvent_9 rfl (fun h9t => ?_) (fun h9f => ?_)
    · refine fk_iconst (v := nI 0) d_Lg_hasEvent_26 (by decide +kernel) ?_
      refine fk_top (fn_rf (b := false) (by first | assumption | (simp; omega) | simp_all | (simp_all; omega))) ?_
      exact hret (0, 0) _ 27 _ () d_Lg_hasEvent_27 (trivial) (rfl)
    · exact absurd hx h9f
set_option maxRecDepth 20000 in
set_option maxHeartbeats 4000000 in
theorem cL_hasEventN (E : fk_E) (a0 : Nat) (a1 : Nat) (a2 : Nat) (a3 : Nat) (tr : Nat) (len : Nat → Nat) (x : Int32) (y : Int32) (hx : x < 0) : fk_C E fy_Lg_hasEvent prog_2_method_4_code 3 (some .boolean) 1 0 0 [.ref a0, .int x, .int y] [(a0, .inr (1, [.ref a1, .ref a2, .ref a3, .int (nI tr)])), fk_ai E a1 20 len] (S := Unit) (fun _ => some (.int (nI (Bool.toNat false)))) (fun _ => True) (fun _ => [(a0, .inr (1, [.ref a1, .ref a2, .ref a3, .int (nI tr)])), fk_ai E a1 20 len]) := by
  refine fk_enterZ (v := fun _ => false) (by decide) (Nat.le_of_ble_eq_true rfl) (lv0 := [(0, .ref a0), (1, .int x), (2, .int y)]) rfl ?_
  intro K hini hret
  refine fk_aload_n 0 d_Lg_hasEvent_0 rfl ?_
  refine fk_iload_n 1 d_Lg_hasEvent_1 rfl ?_
  refine fk_callV (q0 := 0) (As := [.int x]) (rest := []) (is := [0]) (ir := [1]) (ip := [1, 0]) (wc := [(a0, .inr (1, [.ref a1, .ref a2, .ref a3, .int (nI tr)]))]) (wr := [fk_ai E a1 20 len]) (w2 := fun _ => [(a0, .inr (1, [.ref a1, .ref a2, .ref a3, .int (nI tr)])), fk_ai E a1 20 len]) (cL_hasTraceM E a0 a1 a2 a3 tr x (by first | omega | assumption)) d_Lg_hasEvent_2 fz_Lg_hasTrace fw_211 rfl rfl fw_196 fw_197 ⟨Nat.le_of_ble_eq_true rfl, Nat.le_of_ble_eq_true rfl⟩ rfl (Nat.le_of_ble_eq_true rfl) ⟨Nat.zero_le _, Nat.zero_le _⟩ ⟨rfl, rfl, rfl, rfl, by decide, fun _ => rfl, rfl⟩ (fun u hu2 => ?_)
  show fk_V E _ K (0, 0) [(a0, .inr (1, [.ref a1, .ref a2, .ref a3, .int (nI tr)])), fk_ai E a1 20 len] 5 [(0, .ref a0), (1, .int x), (2, .int y)] [.int (nI (Bool.toNat false))]
  refine fk_if_eqB (b := false) d_Lg_hasEvent_5 rfl (fun h5t => ?_) (fun h5f => ?_)
  · refine fk_iconst (v := nI 0) d_Lg_hasEvent_26 (by decide +kernel) ?_
    refine fk_top (fn_rf (b := false) (by first | assumption | (simp; omega) | simp_all | (simp_all; omega))) ?_
    exact hret (0, 0) _ 27 _ () d_Lg_hasEvent_27 (trivial) (rfl)
  · exact absurd h5f (by decide)
theorem d_Lg_addTrace_0 : decode prog_2_method_7_code 0 = .ok (.aload_n 0, 1) := by decide +kernel
theorem d_Lg_addTrace_1 : decode prog_2_method_7_code 1 = .ok (.invokevirtual 29, 3) := by decide +kernel
theorem d_Lg_addTrace_4 : decode prog_2_method_7_code 4 = .ok (.ifCond .eq 6, 3) := by decide +kernel
theorem d_Lg_addTrace_7 : decode prog_2_method_7_code 7 = .ok (.bipush (-2), 2) := by decide +kernel
theorem d_Lg_addTrace_9 : decode prog_2_method_7_code 9 = .ok (.ireturn, 1) := by decide +kernel
theorem d_Lg_addTrace_10 : decode prog_2_method_7_code 10 = .ok (.aload_n 0, 1) := by decide +kernel
theorem d_Lg_addTrace_11 : decode prog_2_method_7_code 11 = .ok (.getfield 9, 3) := by decide +kernel
theorem d_Lg_addTrace_14 : decode prog_2_method_7_code 14 = .ok (.aload_n 0, 1) := by decide +kernel
theorem d_Lg_addTrace_15 : decode prog_2_method_7_code 15 = .ok (.getfield 21, 3) := by decide +kernel
theorem d_Lg_addTrace_18 : decode prog_2_method_7_code 18 = .ok (.iconst 0, 1) := by decide +kernel
theorem d_Lg_addTrace_19 : decode prog_2_method_7_code 19 = .ok (.iastore, 1) := by decide +kernel
theorem d_Lg_addTrace_20 : decode prog_2_method_7_code 20 = .ok (.aload_n 0, 1) := by decide +kernel
theorem d_Lg_addTrace_21 : decode prog_2_method_7_code 21 = .ok (.dup, 1) := by decide +kernel
theorem d_Lg_addTrace_22 : decode prog_2_method_7_code 22 = .ok (.getfield 21, 3) := by decide +kernel
theorem d_Lg_addTrace_25 : decode prog_2_method_7_code 25 = .ok (.iconst 1, 1) := by decide +kernel
theorem d_Lg_addTrace_26 : decode prog_2_method_7_code 26 = .ok (.iadd, 1) := by decide +kernel
theorem d_Lg_addTrace_27 : decode prog_2_method_7_code 27 = .ok (.putfield 21, 3) := by decide +kernel
theorem d_Lg_addTrace_30 : decode prog_2_method_7_code 30 = .ok (.aload_n 0, 1) := by decide +kernel
theorem d_Lg_addTrace_31 : decode prog_2_method_7_code 31 = .ok (.getfield 21, 3) := by decide +kernel
theorem d_Lg_addTrace_34 : decode prog_2_method_7_code 34 = .ok (.iconst 1, 1) := by decide +kernel
theorem d_Lg_addTrace_35 : decode prog_2_method_7_code 35 = .ok (.isub, 1) := by decide +kernel
theorem d_Lg_addTrace_36 : decode prog_2_method_7_code 36 = .ok (.ireturn, 1) := by decide +kernel
set_option maxRecDepth 20000 in
set_option maxHeartbeats 4000000 in
theorem cL_addTraceF (E : fk_E) (a0 : Nat) (a1 : Nat) (a2 : Nat) (a3 : Nat) (tr : Nat) (len : Nat → Nat) (ht : tr = 20) : fk_C E fy_Lg_addTrace prog_2_method_7_code 1 (some .int) 1 0 0 [.ref a0] [(a0, .inr (1, [.ref a1, .ref a2, .ref a3, .int (nI tr)])), fk_ai E a1 20 len] (S := Unit) (fun _ => some (.int (-2))) (fun _ => True) (fun _ => [(a0, .inr (1, [.ref a1, .ref a2, .ref a3, .int (nI tr)])), fk_ai E a1 20 len]) := by
  refine fk_enterI (v := fun _ => (-2)) (by decide) (Nat.le_of_ble_eq_true rfl) (lv0 := [(0, .ref a0)]) rfl ?_
  intro K hini hret
  refine fk_aload_n 0 d_Lg_addTrace_0 rfl ?_
  refine fk_callV (q0 := 0) (As := []) (rest := []) (is := [0]) (ir := [1]) (ip := [1, 0]) (wc := [(a0, .inr (1, [.ref a1, .ref a2, .ref a3, .int (nI tr)]))]) (wr := [fk_ai E a1 20 len]) (w2 := fun _ => [(a0, .inr (1, [.ref a1, .ref a2, .ref a3, .int (nI tr)])), fk_ai E a1 20 len]) (cL_isFull E a0 a1 a2 a3 tr (by first | omega | assumption)) d_Lg_addTrace_1 fz_Lg_isFull fw_161 rfl rfl fw_162 fw_163 ⟨Nat.le_of_ble_eq_true rfl, Nat.le_of_ble_eq_true rfl⟩ rfl (Nat.le_of_ble_eq_true rfl) ⟨Nat.zero_le _, Nat.zero_le _⟩ ⟨rfl, rfl, rfl, rfl, by decide, fun _ => rfl, rfl⟩ (fun u hu1 => ?_)
  show fk_V E _ K (0, 0) [(a0, .inr (1, [.ref a1, .ref a2, .ref a3, .int (nI tr)])), fk_ai E a1 20 len] 4 [(0, .ref a0)] [.int (nI (Bool.toNat (decide (tr = 20))))]
  refine fk_if_eqB (b := (decide (tr = 20))) d_Lg_addTrace_4 rfl (fun h4t => ?_) (fun h4f => ?_)
  · simp_all
  · refine fk_bipush (v := -2) d_Lg_addTrace_7 (by decide +kernel) ?_
    exact hret (0, 0) _ 9 _ () d_Lg_addTrace_9 (trivial) (rfl)
set_option maxRecDepth 20000 in
set_option maxHeartbeats 4000000 in
theorem cL_addTrace (E : fk_E) (a0 : Nat) (a1 : Nat) (a2 : Nat) (a3 : Nat) (tr : Nat) (len : Nat → Nat) (ht : tr < 20) : fk_C E fy_Lg_addTrace prog_2_method_7_code 1 (some .int) 1 0 0 [.ref a0] [(a0, .inr (1, [.ref a1, .ref a2, .ref a3, .int (nI tr)])), fk_ai E a1 20 len] (S := Unit) (fun _ => some (.int (nI tr))) (fun _ => True) (fun _ => [(a0, .inr (1, [.ref a1, .ref a2, .ref a3, .int (nI (tr + 1))])), fk_ai E a1 20 (va_up len tr 0)]) := by
  refine fk_enterI (v := fun _ => (nI tr)) (by decide) (Nat.le_of_ble_eq_true rfl) (lv0 := [(0, .ref a0)]) rfl ?_
  intro K hini hret
  refine fk_aload_n 0 d_Lg_addTrace_0 rfl ?_
  refine fk_callV (q0 := 0) (As := []) (rest := []) (is := [0]) (ir := [1]) (ip := [1, 0]) (wc := [(a0, .inr (1, [.ref a1, .ref a2, .ref a3, .int (nI tr)]))]) (wr := [fk_ai E a1 20 len]) (w2 := fun _ => [(a0, .inr (1, [.ref a1, .ref a2, .ref a3, .int (nI tr)])), fk_ai E a1 20 len]) (cL_isFull E a0 a1 a2 a3 tr (by first | omega | assumption)) d_Lg_addTrace_1 fz_Lg_isFull fw_161 rfl rfl fw_162 fw_163 ⟨Nat.le_of_ble_eq_true rfl, Nat.le_of_ble_eq_true rfl⟩ rfl (Nat.le_of_ble_eq_true rfl) ⟨Nat.zero_le _, Nat.zero_le _⟩ ⟨rfl, rfl, rfl, rfl, by decide, fun _ => rfl, rfl⟩ (fun u hu1 => ?_)
  show fk_V E _ K (0, 0) [(a0, .inr (1, [.ref a1, .ref a2, .ref a3, .int (nI tr)])), fk_ai E a1 20 len] 4 [(0, .ref a0)] [.int (nI (Bool.toNat (decide (tr = 20))))]
  refine fk_if_eqB (b := (decide (tr = 20))) d_Lg_addTrace_4 rfl (fun h4t => ?_) (fun h4f => ?_)
  · refine fk_aload_n 0 d_Lg_addTrace_10 rfl ?_
    refine fk_get 0 0 rfl rfl fh_Lg (Nat.le_of_ble_eq_true rfl) fw_24 rfl d_Lg_addTrace_11 ?_
    refine fk_aload_n 0 d_Lg_addTrace_14 rfl ?_
    refine fk_get 0 3 rfl rfl fh_Lg (Nat.le_of_ble_eq_true rfl) fw_27 rfl d_Lg_addTrace_15 ?_
    refine fk_iconst (v := nI 0) d_Lg_addTrace_18 (by decide +kernel) ?_
    refine fk_st_ai (i := tr) (x := 0) (w' := [(a0, .inr (1, [.ref a1, .ref a2, .ref a3, .int (nI tr)])), fk_ai E a1 20 (va_up len tr 0)]) 1 rfl (by omega) (by decide) d_Lg_addTrace_19 rfl ?_
    refine fk_aload_n 0 d_Lg_addTrace_20 rfl ?_
    refine fk_dup d_Lg_addTrace_21 rfl ?_
    refine fk_get 0 3 rfl rfl fh_Lg (Nat.le_of_ble_eq_true rfl) fw_27 rfl d_Lg_addTrace_22 ?_
    refine fk_iconst (v := nI 1) d_Lg_addTrace_25 (by decide +kernel) ?_
    refine fk_iadd (a := tr) (b := 1) d_Lg_addTrace_26 ?_
    refine fk_put (w' := [(a0, .inr (1, [.ref a1, .ref a2, .ref a3, .int (nI (tr + 1))])), fk_ai E a1 20 (va_up len tr 0)]) 0 3 fT_Lg fT_Lg_ok fT_Lg_nm rfl rfl fh_Lg (Nat.le_of_ble_eq_true rfl) fw_27 rfl (fT_Lg_ok 3 (Nat.le_of_ble_eq_true rfl)) rfl rfl (Nat.le_of_ble_eq_true rfl) d_Lg_addTrace_27 rfl ?_
    refine fk_aload_n 0 d_Lg_addTrace_30 rfl ?_
    refine fk_get 0 3 rfl rfl fh_Lg (Nat.le_of_ble_eq_true rfl) fw_27 rfl d_Lg_addTrace_31 ?_
    refine fk_iconst (v := nI 1) d_Lg_addTrace_34 (by decide +kernel) ?_
    refine fk_isub (a := (tr + 1)) (b := 1) d_Lg_addTrace_35 (by omega) ?_
    refine fk_top (congrArg nI (show (tr + 1) - 1 = tr from by first | omega | simp_all)) ?_
    exact hret (0, 0) _ 36 _ () d_Lg_addTrace_36 (trivial) (rfl)
  · exact absurd (of_decide_eq_true h4f) (by omega)
theorem d_Ar_fillI_0 : decode prog_10_method_103_code 0 = .ok (.iconst 0, 1) := by decide +kernel
theorem d_Ar_fillI_1 : decode prog_10_method_103_code 1 = .ok (.istore_n 2, 1) := by decide +kernel
theorem d_Ar_fillI_2 : decode prog_10_method_103_code 2 = .ok (.aload_n 0, 1) := by decide +kernel
theorem d_Ar_fillI_3 : decode prog_10_method_103_code 3 = .ok (.arraylength, 1) := by decide +kernel
theorem d_Ar_fillI_4 : decode prog_10_method_103_code 4 = .ok (.istore_n 3, 1) := by decide +kernel
theorem d_Ar_fillI_5 : decode prog_10_method_103_code 5 = .ok (.iload_n 2, 1) := by decide +kernel
theorem d_Ar_fillI_6 : decode prog_10_method_103_code 6 = .ok (.iload_n 3, 1) := by decide +kernel
theorem d_Ar_fillI_7 : decode prog_10_method_103_code 7 = .ok (.if_icmp .ge 13, 3) := by decide +kernel
theorem d_Ar_fillI_10 : decode prog_10_method_103_code 10 = .ok (.aload_n 0, 1) := by decide +kernel
theorem d_Ar_fillI_11 : decode prog_10_method_103_code 11 = .ok (.iload_n 2, 1) := by decide +kernel
theorem d_Ar_fillI_12 : decode prog_10_method_103_code 12 = .ok (.iload_n 1, 1) := by decide +kernel
theorem d_Ar_fillI_13 : decode prog_10_method_103_code 13 = .ok (.iastore, 1) := by decide +kernel
theorem d_Ar_fillI_14 : decode prog_10_method_103_code 14 = .ok (.iinc 2 1, 3) := by decide +kernel
theorem d_Ar_fillI_17 : decode prog_10_method_103_code 17 = .ok (.goto (-12), 3) := by decide +kernel
theorem d_Ar_fillI_20 : decode prog_10_method_103_code 20 = .ok (.return_, 1) := by decide +kernel
set_option maxRecDepth 20000 in
set_option maxHeartbeats 4000000 in
theorem cA_fillI (E : fk_E) (a : Nat) (N : Nat) (v : Nat) (g : Nat → Nat) (hN : N < 2 ^ 31) : fk_C E fy_Ar_fillI prog_10_method_103_code 4 none 0 0 0 [.ref a, .int (nI v)] [fk_ai E a N g] (S := (Nat → Nat)) (fun (u : (Nat → Nat)) => none) (fun (u : (Nat → Nat)) => ∀ k, k < N → u k = v) (fun (u : (Nat → Nat)) => [fk_ai E a N u]) := by
  refine fk_enterV (by decide) (Nat.le_of_ble_eq_true rfl) (lv0 := [(0, .ref a), (1, .int (nI v))]) rfl ?_
  intro K hini hret
  refine fk_iconst (v := nI 0) d_Ar_fillI_0 (by decide +kernel) ?_
  refine fk_istore_n (lv' := [(0, .ref a), (1, .int (nI v)), (2, .int (nI 0))]) d_Ar_fillI_1 rfl (Nat.le_of_ble_eq_true rfl) [1, 2, 0] rfl ?_
  refine fk_aload_n 0 d_Ar_fillI_2 rfl ?_
  refine fk_alen (t0 := 0) 0 rfl rfl d_Ar_fillI_3 ?_
  refine fk_istore_n (lv' := [(0, .ref a), (1, .int (nI v)), (2, .int (nI 0)), (3, .int (nI N))]) d_Ar_fillI_4 rfl (Nat.le_of_ble_eq_true rfl) [1, 2, 3, 0] rfl ?_
  have L5 : ∀ (fuel : Nat) (i : Nat) (g1 : Nat → Nat), (i ≤ N) → (∀ k, k < i → g1 k = v) → N - i < fuel → fk_V E (prog_10_method_103_code, fy_Ar_fillI.cls, 4, fk_rm 0 0 0) K (0, 0) [fk_ai E a N g1] 5 [(0, .ref a), (1, .int (nI v)), (2, .int (nI i)), (3, .int (nI N))] [] := by
    intro fuel
    induction fuel with
    | zero => intro i g1 _ _ hm; exact absurd hm (Nat.not_lt_zero _)
    | succ fuel ih =>
      intro i g1 hi hg hm5
      have ih5 := ih
      clear ih
      refine fk_iload_n 2 d_Ar_fillI_5 rfl ?_
      refine fk_iload_n 3 d_Ar_fillI_6 rfl ?_
      refine fk_icmp_ge (a := i) (b := N) (by omega) (by omega) d_Ar_fillI_7 rfl (fun h7t => ?_) (fun h7f => ?_)
      · have hpp : ∀ k, k < N → g1 k = v := fun k hk => hg k (by omega)
        exact hret (0, 0) _ 20 _ g1 d_Ar_fillI_20 (hpp) (rfl)
      · refine fk_aload_n 0 d_Ar_fillI_10 rfl ?_
        refine fk_iload_n 2 d_Ar_fillI_11 rfl ?_
        refine fk_iload_n 1 d_Ar_fillI_12 rfl ?_
        refine fk_st_ai (i := i) (x := v) (w' := [fk_ai E a N (va_up g1 i v)]) 0 rfl (by omega) (by omega) d_Ar_fillI_13 rfl ?_
        refine fk_iinc (j := 2) (lv' := [(0, .ref a), (1, .int (nI v)), (2, .int (nI (i + 1))), (3, .int (nI N))]) (i + 1) d_Ar_fillI_14 rfl (nI_1 i) (Nat.le_of_ble_eq_true rfl) [1, 2, 0, 3] rfl ?_
        refine fk_goto d_Ar_fillI_17 rfl ?_
        refine ih5 _ _ ?_ ?_ ?_
        · first | omega | assumption | exact Nat.zero_le _
        · intro k hk
          by_cases e : k = i
          · subst e
            exact va_up_self _ _ _
          · rw [va_up_ne _ _ e]
            exact hg k (by omega)
        · omega
  refine L5 _ _ _ ?_ ?_ (Nat.lt_succ_self _)
  · first | omega | assumption | exact Nat.zero_le _
  · exact fun k hk => absurd hk (Nat.not_lt_zero k)
theorem d_Ar_fillJ_0 : decode prog_10_method_101_code 0 = .ok (.iconst 0, 1) := by decide +kernel
theorem d_Ar_fillJ_1 : decode prog_10_method_101_code 1 = .ok (.istore_n 3, 1) := by decide +kernel
theorem d_Ar_fillJ_2 : decode prog_10_method_101_code 2 = .ok (.aload_n 0, 1) := by decide +kernel
theorem d_Ar_fillJ_3 : decode prog_10_method_101_code 3 = .ok (.arraylength, 1) := by decide +kernel
theorem d_Ar_fillJ_4 : decode prog_10_method_101_code 4 = .ok (.istore 4, 2) := by decide +kernel
theorem d_Ar_fillJ_6 : decode prog_10_method_101_code 6 = .ok (.iload_n 3, 1) := by decide +kernel
theorem d_Ar_fillJ_7 : decode prog_10_method_101_code 7 = .ok (.iload 4, 2) := by decide +kernel
theorem d_Ar_fillJ_9 : decode prog_10_method_101_code 9 = .ok (.if_icmp .ge 13, 3) := by decide +kernel
theorem d_Ar_fillJ_12 : decode prog_10_method_101_code 12 = .ok (.aload_n 0, 1) := by decide +kernel
theorem d_Ar_fillJ_13 : decode prog_10_method_101_code 13 = .ok (.iload_n 3, 1) := by decide +kernel
theorem d_Ar_fillJ_14 : decode prog_10_method_101_code 14 = .ok (.lload_n 1, 1) := by decide +kernel
theorem d_Ar_fillJ_15 : decode prog_10_method_101_code 15 = .ok (.lastore, 1) := by decide +kernel
theorem d_Ar_fillJ_16 : decode prog_10_method_101_code 16 = .ok (.iinc 3 1, 3) := by decide +kernel
theorem d_Ar_fillJ_19 : decode prog_10_method_101_code 19 = .ok (.goto (-13), 3) := by decide +kernel
theorem d_Ar_fillJ_22 : decode prog_10_method_101_code 22 = .ok (.return_, 1) := by decide +kernel
set_option maxRecDepth 20000 in
set_option maxHeartbeats 4000000 in
theorem cA_fillJ (E : fk_E) (a : Nat) (N : Nat) (v : Nat) (g : Nat → Nat) (hN : N < 2 ^ 31) : fk_C E fy_Ar_fillJ prog_10_method_101_code 5 none 0 0 0 [.ref a, .long (lN v)] [fk_al E a N g] (S := (Nat → Nat)) (fun (u : (Nat → Nat)) => none) (fun (u : (Nat → Nat)) => ∀ k, k < N → u k = v) (fun (u : (Nat → Nat)) => [fk_al E a N u]) := by
  refine fk_enterV (by decide) (Nat.le_of_ble_eq_true rfl) (lv0 := [(0, .ref a), (1, .long (lN v))]) rfl ?_
  intro K hini hret
  refine fk_iconst (v := nI 0) d_Ar_fillJ_0 (by decide +kernel) ?_
  refine fk_istore_n (lv' := [(0, .ref a), (1, .long (lN v)), (3, .int (nI 0))]) d_Ar_fillJ_1 rfl (Nat.le_of_ble_eq_true rfl) [1, 2, 0] rfl ?_
  refine fk_aload_n 0 d_Ar_fillJ_2 rfl ?_
  refine fk_alen (t0 := 1) 0 rfl rfl d_Ar_fillJ_3 ?_
  refine fk_istore (lv' := [(0, .ref a), (1, .long (lN v)), (3, .int (nI 0)), (4, .int (nI N))]) d_Ar_fillJ_4 (Nat.le_of_ble_eq_true rfl) [1, 2, 3, 0] rfl ?_
  have L6 : ∀ (fuel : Nat) (i : Nat) (g1 : Nat → Nat), (i ≤ N) → (∀ k, k < i → g1 k = v) → N - i < fuel → fk_V E (prog_10_method_101_code, fy_Ar_fillJ.cls, 5, fk_rm 0 0 0) K (0, 0) [fk_al E a N g1] 6 [(0, .ref a), (1, .long (lN v)), (3, .int (nI i)), (4, .int (nI N))] [] := by
    intro fuel
    induction fuel with
    | zero => intro i g1 _ _ hm; exact absurd hm (Nat.not_lt_zero _)
    | succ fuel ih =>
      intro i g1 hi hg hm6
      have ih6 := ih
      clear ih
      refine fk_iload_n 2 d_Ar_fillJ_6 rfl ?_
      refine fk_iload 3 d_Ar_fillJ_7 rfl ?_
      refine fk_icmp_ge (a := i) (b := N) (by omega) (by omega) d_Ar_fillJ_9 rfl (fun h9t => ?_) (fun h9f => ?_)
      · have hpp : ∀ k, k < N → g1 k = v := fun k hk => hg k (by omega)
        exact hret (0, 0) _ 22 _ g1 d_Ar_fillJ_22 (hpp) (rfl)
      · refine fk_aload_n 0 d_Ar_fillJ_12 rfl ?_
        refine fk_iload_n 2 d_Ar_fillJ_13 rfl ?_
        refine fk_lload_n 1 d_Ar_fillJ_14 rfl ?_
        refine fk_st_al (i := i) (x := v) (w' := [fk_al E a N (va_up g1 i v)]) 0 rfl (by omega) (by omega) d_Ar_fillJ_15 rfl ?_
        refine fk_iinc (j := 2) (lv' := [(0, .ref a), (1, .long (lN v)), (3, .int (nI (i + 1))), (4, .int (nI N))]) (i + 1) d_Ar_fillJ_16 rfl (nI_1 i) (Nat.le_of_ble_eq_true rfl) [1, 2, 0, 3] rfl ?_
        refine fk_goto d_Ar_fillJ_19 rfl ?_
        refine ih6 _ _ ?_ ?_ ?_
        · first | omega | assumption | exact Nat.zero_le _
        · intro k hk
          by_cases e : k = i
          · subst e
            exact va_up_self _ _ _
          · rw [va_up_ne _ _ e]
            exact hg k (by omega)
        · omega
  refine L6 _ _ _ ?_ ?_ (Nat.lt_succ_self _)
  · first | omega | assumption | exact Nat.zero_le _
  · exact fun k hk => absurd hk (Nat.not_lt_zero k)
theorem d_Lg_removeTraces_0 : decode prog_2_method_9_code 0 = .ok (.aload_n 0, 1) := by decide +kernel
theorem d_Lg_removeTraces_1 : decode prog_2_method_9_code 1 = .ok (.iconst 0, 1) := by decide +kernel
theorem d_Lg_removeTraces_2 : decode prog_2_method_9_code 2 = .ok (.putfield 21, 3) := by decide +kernel
theorem d_Lg_removeTraces_5 : decode prog_2_method_9_code 5 = .ok (.aload_n 0, 1) := by decide +kernel
theorem d_Lg_removeTraces_6 : decode prog_2_method_9_code 6 = .ok (.getfield 18, 3) := by decide +kernel
theorem d_Lg_removeTraces_9 : decode prog_2_method_9_code 9 = .ok (.iconst 0, 1) := by decide +kernel
theorem d_Lg_removeTraces_10 : decode prog_2_method_9_code 10 = .ok (.invokestatic 40, 3) := by decide +kernel
theorem d_Lg_removeTraces_13 : decode prog_2_method_9_code 13 = .ok (.return_, 1) := by decide +kernel
set_option maxRecDepth 20000 in
set_option maxHeartbeats 4000000 in
theorem cL_removeTraces (E : fk_E) (a0 : Nat) (a1 : Nat) (a2 : Nat) (a3 : Nat) (tr : Nat) (fo : Nat → Nat)  : fk_C E fy_Lg_removeTraces prog_2_method_9_code 1 none 1 0 0 [.ref a0] [(a0, .inr (1, [.ref a1, .ref a2, .ref a3, .int (nI tr)])), fk_ai E a3 7 fo] (S := (Nat → Nat)) (fun (u : (Nat → Nat)) => none) (fun (u : (Nat → Nat)) => ∀ k, k < 7 → u k = 0) (fun (u : (Nat → Nat)) => [(a0, .inr (1, [.ref a1, .ref a2, .ref a3, .int (nI 0)])), fk_ai E a3 7 u]) := by
  refine fk_enterV (by decide) (Nat.le_of_ble_eq_true rfl) (lv0 := [(0, .ref a0)]) rfl ?_
  intro K hini hret
  refine fk_aload_n 0 d_Lg_removeTraces_0 rfl ?_
  refine fk_iconst (v := nI 0) d_Lg_removeTraces_1 (by decide +kernel) ?_
  refine fk_put (w' := [(a0, .inr (1, [.ref a1, .ref a2, .ref a3, .int (nI 0)])), fk_ai E a3 7 fo]) 0 3 fT_Lg fT_Lg_ok fT_Lg_nm rfl rfl fh_Lg (Nat.le_of_ble_eq_true rfl) fw_27 rfl (fT_Lg_ok 3 (Nat.le_of_ble_eq_true rfl)) rfl rfl (Nat.le_of_ble_eq_true rfl) d_Lg_removeTraces_2 rfl ?_
  refine fk_aload_n 0 d_Lg_removeTraces_5 rfl ?_
  refine fk_get 0 2 rfl rfl fh_Lg (Nat.le_of_ble_eq_true rfl) fw_26 rfl d_Lg_removeTraces_6 ?_
  refine fk_iconst (v := nI 0) d_Lg_removeTraces_9 (by decide +kernel) ?_
  refine fk_callS (As := [.ref a3, .int (nI 0)]) (rest := []) (is := [1]) (ir := [0]) (ip := [0, 1]) (wc := [fk_ai E a3 7 fo]) (wr := [(a0, .inr (1, [.ref a1, .ref a2, .ref a3, .int (nI 0)]))]) (w2 := fun u => [(a0, .inr (1, [.ref a1, .ref a2, .ref a3, .int (nI 0)])), fk_ai E a3 7 u]) (cA_fillI E a3 7 0 fo (by first | omega | assumption)) d_Lg_removeTraces_10 fz_Ar_fillI fw_188 fw_189 ⟨Nat.le_of_ble_eq_true rfl, Nat.le_of_ble_eq_true rfl⟩ rfl (Nat.le_of_ble_eq_true rfl) ⟨Nat.zero_le _, Nat.zero_le _⟩ ⟨rfl, rfl, rfl, rfl, by decide, fun _ => rfl, rfl⟩ (fun u hu10 => ?_)
  obtain ⟨g9_10, rfl⟩ : ∃ z, z = u := ⟨_, rfl⟩
  have hq10 : ∀ k, k < 7 → g9_10 k = 0 := hu10
  show fk_V E _ K (0, 0) [(a0, .inr (1, [.ref a1, .ref a2, .ref a3, .int (nI 0)])), fk_ai E a3 7 g9_10] 13 [(0, .ref a0)] []
  have hpp : ∀ k, k < 7 → g9_10 k = 0 := hq10
  exact hret (0, 0) _ 13 _ g9_10 d_Lg_removeTraces_13 (hpp) (rfl)
theorem d_Lg_isFollowed_0 : decode prog_2_method_10_code 0 = .ok (.iload_n 2, 1) := by decide +kernel
theorem d_Lg_isFollowed_1 : decode prog_2_method_10_code 1 = .ok (.aload_n 0, 1) := by decide +kernel
theorem d_Lg_isFollowed_2 : decode prog_2_method_10_code 2 = .ok (.getfield 18, 3) := by decide +kernel
theorem d_Lg_isFollowed_5 : decode prog_2_method_10_code 5 = .ok (.iload_n 1, 1) := by decide +kernel
theorem d_Lg_isFollowed_6 : decode prog_2_method_10_code 6 = .ok (.iaload, 1) := by decide +kernel
theorem d_Lg_isFollowed_7 : decode prog_2_method_10_code 7 = .ok (.invokestatic 46, 3) := by decide +kernel
theorem d_Lg_isFollowed_10 : decode prog_2_method_10_code 10 = .ok (.ireturn, 1) := by decide +kernel
set_option maxRecDepth 20000 in
set_option maxHeartbeats 4000000 in
theorem cL_isFollowed (E : fk_E) (a0 : Nat) (a1 : Nat) (a2 : Nat) (a3 : Nat) (tr : Nat) (fo : Nat → Nat) (a : Nat) (b : Nat) (ha : a < 7) (hb : b < 7) (hf : ∀ k, k < 7 → fo k < 128) : fk_C E fy_Lg_isFollowed prog_2_method_10_code 3 (some .boolean) 1 0 0 [.ref a0, .int (nI a), .int (nI b)] [(a0, .inr (1, [.ref a1, .ref a2, .ref a3, .int (nI tr)])), fk_ai E a3 7 fo] (S := Unit) (fun _ => some (.int (nI (Bool.toNat (Nat.testBit (fo a) b))))) (fun _ => True) (fun _ => [(a0, .inr (1, [.ref a1, .ref a2, .ref a3, .int (nI tr)])), fk_ai E a3 7 fo]) := by
  refine fk_enterZ (v := fun _ => Nat.testBit (fo a) b) (by decide) (Nat.le_of_ble_eq_true rfl) (lv0 := [(0, .ref a0), (1, .int (nI a)), (2, .int (nI b))]) rfl ?_
  intro K hini hret
  refine fk_iload_n 2 d_Lg_isFollowed_0 rfl ?_
  refine fk_aload_n 0 d_Lg_isFollowed_1 rfl ?_
  refine fk_get 0 2 rfl rfl fh_Lg (Nat.le_of_ble_eq_true rfl) fw_26 rfl d_Lg_isFollowed_2 ?_
  refine fk_iload_n 1 d_Lg_isFollowed_5 rfl ?_
  refine fk_ld_ai (i := a) 1 rfl (by omega) (by decide) d_Lg_isFollowed_6 ?_
  have h9 := hf a ha
  refine fk_callSN (As := [.int (nI b), .int (nI (fo a))]) (rest := []) (is := []) (ir := [0, 1]) (ip := [0, 1]) (wc := []) (wr := [(a0, .inr (1, [.ref a1, .ref a2, .ref a3, .int (nI tr)])), fk_ai E a3 7 fo]) (w2 := fun _ => [(a0, .inr (1, [.ref a1, .ref a2, .ref a3, .int (nI tr)])), fk_ai E a3 7 fo]) (cF_isIn E b (fo a) (by first | omega | assumption) (by first | omega | assumption)) d_Lg_isFollowed_7 fz_F_isIn fw_222 fw_223 ⟨Nat.le_of_ble_eq_true rfl, Nat.le_of_ble_eq_true rfl⟩ rfl (Nat.le_of_ble_eq_true rfl) ⟨Nat.zero_le _, Nat.zero_le _⟩ ⟨rfl, rfl, rfl, rfl, by decide, fun _ => rfl, rfl⟩ (fun u hu7 => ?_)
  show fk_V E _ K (0, 0) [(a0, .inr (1, [.ref a1, .ref a2, .ref a3, .int (nI tr)])), fk_ai E a3 7 fo] 10 [(0, .ref a0), (1, .int (nI a)), (2, .int (nI b))] [.int (nI (Bool.toNat (Nat.testBit (fo a) b)))]
  exact hret (0, 0) _ 10 _ () d_Lg_isFollowed_10 (trivial) (rfl)
theorem d_Lg_append_0 : decode prog_2_method_8_code 0 = .ok (.aload_n 0, 1) := by decide +kernel
theorem d_Lg_append_1 : decode prog_2_method_8_code 1 = .ok (.getfield 21, 3) := by decide +kernel
theorem d_Lg_append_4 : decode prog_2_method_8_code 4 = .ok (.iconst 1, 1) := by decide +kernel
theorem d_Lg_append_5 : decode prog_2_method_8_code 5 = .ok (.isub, 1) := by decide +kernel
theorem d_Lg_append_6 : decode prog_2_method_8_code 6 = .ok (.istore_n 2, 1) := by decide +kernel
theorem d_Lg_append_7 : decode prog_2_method_8_code 7 = .ok (.iload_n 1, 1) := by decide +kernel
theorem d_Lg_append_8 : decode prog_2_method_8_code 8 = .ok (.invokestatic 33, 3) := by decide +kernel
theorem d_Lg_append_11 : decode prog_2_method_8_code 11 = .ok (.ifCond .eq 18, 3) := by decide +kernel
theorem d_Lg_append_14 : decode prog_2_method_8_code 14 = .ok (.iload_n 2, 1) := by decide +kernel
theorem d_Lg_append_15 : decode prog_2_method_8_code 15 = .ok (.ifCond .lt 14, 3) := by decide +kernel
theorem d_Lg_append_18 : decode prog_2_method_8_code 18 = .ok (.aload_n 0, 1) := by decide +kernel
theorem d_Lg_append_19 : decode prog_2_method_8_code 19 = .ok (.getfield 9, 3) := by decide +kernel
theorem d_Lg_append_22 : decode prog_2_method_8_code 22 = .ok (.iload_n 2, 1) := by decide +kernel
theorem d_Lg_append_23 : decode prog_2_method_8_code 23 = .ok (.iaload, 1) := by decide +kernel
theorem d_Lg_append_24 : decode prog_2_method_8_code 24 = .ok (.bipush 15, 2) := by decide +kernel
theorem d_Lg_append_26 : decode prog_2_method_8_code 26 = .ok (.if_icmp .ne 5, 3) := by decide +kernel
theorem d_Lg_append_29 : decode prog_2_method_8_code 29 = .ok (.iconst 0, 1) := by decide +kernel
theorem d_Lg_append_30 : decode prog_2_method_8_code 30 = .ok (.ireturn, 1) := by decide +kernel
theorem d_Lg_append_31 : decode prog_2_method_8_code 31 = .ok (.aload_n 0, 1) := by decide +kernel
theorem d_Lg_append_32 : decode prog_2_method_8_code 32 = .ok (.getfield 9, 3) := by decide +kernel
theorem d_Lg_append_35 : decode prog_2_method_8_code 35 = .ok (.iload_n 2, 1) := by decide +kernel
theorem d_Lg_append_36 : decode prog_2_method_8_code 36 = .ok (.iaload, 1) := by decide +kernel
theorem d_Lg_append_37 : decode prog_2_method_8_code 37 = .ok (.istore_n 3, 1) := by decide +kernel
theorem d_Lg_append_38 : decode prog_2_method_8_code 38 = .ok (.iload_n 3, 1) := by decide +kernel
theorem d_Lg_append_39 : decode prog_2_method_8_code 39 = .ok (.ifCond .le 22, 3) := by decide +kernel
theorem d_Lg_append_42 : decode prog_2_method_8_code 42 = .ok (.aload_n 0, 1) := by decide +kernel
theorem d_Lg_append_43 : decode prog_2_method_8_code 43 = .ok (.getfield 18, 3) := by decide +kernel
theorem d_Lg_append_46 : decode prog_2_method_8_code 46 = .ok (.aload_n 0, 1) := by decide +kernel
theorem d_Lg_append_47 : decode prog_2_method_8_code 47 = .ok (.iload_n 2, 1) := by decide +kernel
theorem d_Lg_append_48 : decode prog_2_method_8_code 48 = .ok (.iload_n 3, 1) := by decide +kernel
theorem d_Lg_append_49 : decode prog_2_method_8_code 49 = .ok (.iconst 1, 1) := by decide +kernel
theorem d_Lg_append_50 : decode prog_2_method_8_code 50 = .ok (.isub, 1) := by decide +kernel
theorem d_Lg_append_51 : decode prog_2_method_8_code 51 = .ok (.invokevirtual 36, 3) := by decide +kernel
theorem d_Lg_append_54 : decode prog_2_method_8_code 54 = .ok (.dup2, 1) := by decide +kernel
theorem d_Lg_append_55 : decode prog_2_method_8_code 55 = .ok (.iaload, 1) := by decide +kernel
theorem d_Lg_append_56 : decode prog_2_method_8_code 56 = .ok (.iconst 1, 1) := by decide +kernel
theorem d_Lg_append_57 : decode prog_2_method_8_code 57 = .ok (.iload_n 1, 1) := by decide +kernel
theorem d_Lg_append_58 : decode prog_2_method_8_code 58 = .ok (.ishl, 1) := by decide +kernel
theorem d_Lg_append_59 : decode prog_2_method_8_code 59 = .ok (.ior, 1) := by decide +kernel
theorem d_Lg_append_60 : decode prog_2_method_8_code 60 = .ok (.iastore, 1) := by decide +kernel
theorem d_Lg_append_61 : decode prog_2_method_8_code 61 = .ok (.aload_n 0, 1) := by decide +kernel
theorem d_Lg_append_62 : decode prog_2_method_8_code 62 = .ok (.getfield 15, 3) := by decide +kernel
theorem d_Lg_append_65 : decode prog_2_method_8_code 65 = .ok (.iload_n 2, 1) := by decide +kernel
theorem d_Lg_append_66 : decode prog_2_method_8_code 66 = .ok (.bipush 15, 2) := by decide +kernel
theorem d_Lg_append_68 : decode prog_2_method_8_code 68 = .ok (.imul, 1) := by decide +kernel
theorem d_Lg_append_69 : decode prog_2_method_8_code 69 = .ok (.iload_n 3, 1) := by decide +kernel
theorem d_Lg_append_70 : decode prog_2_method_8_code 70 = .ok (.iadd, 1) := by decide +kernel
theorem d_Lg_append_71 : decode prog_2_method_8_code 71 = .ok (.iload_n 1, 1) := by decide +kernel
theorem d_Lg_append_72 : decode prog_2_method_8_code 72 = .ok (.iastore, 1) := by decide +kernel
theorem d_Lg_append_73 : decode prog_2_method_8_code 73 = .ok (.aload_n 0, 1) := by decide +kernel
theorem d_Lg_append_74 : decode prog_2_method_8_code 74 = .ok (.getfield 9, 3) := by decide +kernel
theorem d_Lg_append_77 : decode prog_2_method_8_code 77 = .ok (.iload_n 2, 1) := by decide +kernel
theorem d_Lg_append_78 : decode prog_2_method_8_code 78 = .ok (.iload_n 3, 1) := by decide +kernel
theorem d_Lg_append_79 : decode prog_2_method_8_code 79 = .ok (.iconst 1, 1) := by decide +kernel
theorem d_Lg_append_80 : decode prog_2_method_8_code 80 = .ok (.iadd, 1) := by decide +kernel
theorem d_Lg_append_81 : decode prog_2_method_8_code 81 = .ok (.iastore, 1) := by decide +kernel
theorem d_Lg_append_82 : decode prog_2_method_8_code 82 = .ok (.iconst 1, 1) := by decide +kernel
theorem d_Lg_append_83 : decode prog_2_method_8_code 83 = .ok (.ireturn, 1) := by decide +kernel
set_option maxRecDepth 20000 in
set_option maxHeartbeats 4000000 in
theorem cL_append (E : fk_E) (a0 : Nat) (a1 : Nat) (a2 : Nat) (a3 : Nat) (tr : Nat) (len : Nat → Nat) (ev : Nat → Nat) (fo : Nat → Nat) (a : Nat) (ha : a < 7) (h0 : 0 < tr) (ht : tr ≤ 20) (hl : len (tr - 1) < 15) (he : ∀ i, i < len (tr - 1) → ev (15 * (tr - 1) + i) < 7) (hf : ∀ k, k < 7 → fo k < 128) : fk_C E fy_Lg_append prog_2_method_8_code 4 (some .boolean) 1 0 0 [.ref a0, .int (nI a)] [(a0, .inr (1, [.ref a1, .ref a2, .ref a3, .int (nI tr)])), fk_ai E a1 20 len, fk_ai E a2 300 ev, fk_ai E a3 7 fo] (S := Unit) (fun _ => some (.int (nI (Bool.toNat true)))) (fun _ => True) (fun _ => [(a0, .inr (1, [.ref a1, .ref a2, .ref a3, .int (nI tr)])), fk_ai E a1 20 (va_up len (tr - 1) (len (tr - 1) + 1)), fk_ai E a2 300 (va_up ev (15 * (tr - 1) + len (tr - 1)) a), fk_ai E a3 7 (if 0 < len (tr - 1) then va_up fo (ev (15 * (tr - 1) + (len (tr - 1) - 1))) (fo (ev (15 * (tr - 1) + (len (tr - 1) - 1))) ||| 2 ^ a) else fo)]) := by
  refine fk_enterZ (v := fun _ => true) (by decide) (Nat.le_of_ble_eq_true rfl) (lv0 := [(0, .ref a0), (1, .int (nI a))]) rfl ?_
  intro K hini hret
  refine fk_aload_n 0 d_Lg_append_0 rfl ?_
  refine fk_get 0 3 rfl rfl fh_Lg (Nat.le_of_ble_eq_true rfl) fw_27 rfl d_Lg_append_1 ?_
  refine fk_iconst (v := nI 1) d_Lg_append_4 (by decide +kernel) ?_
  refine fk_isub (a := tr) (b := 1) d_Lg_append_5 (by omega) ?_
  refine fk_istore_n (lv' := [(0, .ref a0), (1, .int (nI a)), (2, .int (nI (tr - 1)))]) d_Lg_append_6 rfl (Nat.le_of_ble_eq_true rfl) [1, 2, 0] rfl ?_
  refine fk_iload_n 1 d_Lg_append_7 rfl ?_
  refine fk_callSN (As := [.int (nI a)]) (rest := []) (is := []) (ir := [0, 1, 2, 3]) (ip := [0, 1, 2, 3]) (wc := []) (wr := [(a0, .inr (1, [.ref a1, .ref a2, .ref a3, .int (nI tr)])), fk_ai E a1 20 len, fk_ai E a2 300 ev, fk_ai E a3 7 fo]) (w2 := fun _ => [(a0, .inr (1, [.ref a1, .ref a2, .ref a3, .int (nI tr)])), fk_ai E a1 20 len, fk_ai E a2 300 ev, fk_ai E a3 7 fo]) (cF_isActivity E a (by first | omega | assumption)) d_Lg_append_8 fz_F_isActivity fw_173 fw_174 ⟨Nat.le_of_ble_eq_true rfl, Nat.le_of_ble_eq_true rfl⟩ rfl (Nat.le_of_ble_eq_true rfl) ⟨Nat.zero_le _, Nat.zero_le _⟩ ⟨rfl, rfl, rfl, rfl, by decide, fun _ => rfl, rfl⟩ (fun u hu8 => ?_)
  show fk_V E _ K (0, 0) [(a0, .inr (1, [.ref a1, .ref a2, .ref a3, .int (nI tr)])), fk_ai E a1 20 len, fk_ai E a2 300 ev, fk_ai E a3 7 fo] 11 [(0, .ref a0), (1, .int (nI a)), (2, .int (nI (tr - 1)))] [.int (nI (Bool.toNat (decide (a < 7))))]
  refine fk_if_eqB (b := (decide (a < 7))) d_Lg_append_11 rfl (fun h11t => ?_) (fun h11f => ?_)
  · exact absurd h11t (by simp [ha])
  · refine fk_iload_n 2 d_Lg_append_14 rfl ?_
    refine fk_if_lt (by omega) d_Lg_append_15 rfl ?_
    refine fk_aload_n 0 d_Lg_append_18 rfl ?_
    refine fk_get 0 0 rfl rfl fh_Lg (Nat.le_of_ble_eq_true rfl) fw_24 rfl d_Lg_append_19 ?_
    refine fk_iload_n 2 d_Lg_append_22 rfl ?_
    refine fk_ld_ai (i := (tr - 1)) 1 rfl (by omega) (by decide) d_Lg_append_23 ?_
    refine fk_bipush (v := nI 15) d_Lg_append_24 (by decide +kernel) ?_
    refine fk_icmp_ne (a := (len (tr - 1))) (b := 15) (by omega) (by omega) d_Lg_append_26 rfl (fun h26t => ?_) (fun h26f => ?_)
    · refine fk_aload_n 0 d_Lg_append_31 rfl ?_
      refine fk_get 0 0 rfl rfl fh_Lg (Nat.le_of_ble_eq_true rfl) fw_24 rfl d_Lg_append_32 ?_
      refine fk_iload_n 2 d_Lg_append_35 rfl ?_
      refine fk_ld_ai (i := (tr - 1)) 1 rfl (by omega) (by decide) d_Lg_append_36 ?_
      refine fk_istore_n (lv' := [(0, .ref a0), (1, .int (nI a)), (2, .int (nI (tr - 1))), (3, .int (nI (len (tr - 1))))]) d_Lg_append_37 rfl (Nat.le_of_ble_eq_true rfl) [1, 2, 3, 0] rfl ?_
      refine fk_iload_n 3 d_Lg_append_38 rfl ?_
      refine fk_if_le (a := (len (tr - 1))) (by omega) d_Lg_append_39 rfl (fun h39t => ?_) (fun h39f => ?_)
      · refine fk_aload_n 0 d_Lg_append_61 rfl ?_
        refine fk_get 0 1 rfl rfl fh_Lg (Nat.le_of_ble_eq_true rfl) fw_25 rfl d_Lg_append_62 ?_
        refine fk_iload_n 2 d_Lg_append_65 rfl ?_
        refine fk_bipush (v := nI 15) d_Lg_append_66 (by decide +kernel) ?_
        refine fk_imul (a := (tr - 1)) (b := 15) d_Lg_append_68 ?_
        refine fk_iload_n 3 d_Lg_append_69 rfl ?_
        refine fk_iadd (a := ((tr - 1) * 15)) (b := (len (tr - 1))) d_Lg_append_70 ?_
        refine fk_top (show (nI (((tr - 1) * 15) + (len (tr - 1)))) = (nI (15 * (tr - 1) + len (tr - 1))) from congrArg nI (by omega)) ?_
        refine fk_iload_n 1 d_Lg_append_71 rfl ?_
        refine fk_st_ai (i := (15 * (tr - 1) + len (tr - 1))) (x := a) (w' := [(a0, .inr (1, [.ref a1, .ref a2, .ref a3, .int (nI tr)])), fk_ai E a1 20 len, fk_ai E a2 300 (va_up ev (15 * (tr - 1) + len (tr - 1)) a), fk_ai E a3 7 fo]) 2 rfl (by omega) (by decide) d_Lg_append_72 rfl ?_
        refine fk_aload_n 0 d_Lg_append_73 rfl ?_
        refine fk_get 0 0 rfl rfl fh_Lg (Nat.le_of_ble_eq_true rfl) fw_24 rfl d_Lg_append_74 ?_
        refine fk_iload_n 2 d_Lg_append_77 rfl ?_
        refine fk_iload_n 3 d_Lg_append_78 rfl ?_
        refine fk_iconst (v := nI 1) d_Lg_append_79 (by decide +kernel) ?_
        refine fk_iadd (a := (len (tr - 1))) (b := 1) d_Lg_append_80 ?_
        refine fk_st_ai (i := (tr - 1)) (x := ((len (tr - 1)) + 1)) (w' := [(a0, .inr (1, [.ref a1, .ref a2, .ref a3, .int (nI tr)])), fk_ai E a1 20 (va_up len (tr - 1) ((len (tr - 1)) + 1)), fk_ai E a2 300 (va_up ev (15 * (tr - 1) + len (tr - 1)) a), fk_ai E a3 7 fo]) 1 rfl (by omega) (by decide) d_Lg_append_81 rfl ?_
        refine fk_iconst (v := nI 1) d_Lg_append_82 (by decide +kernel) ?_
        refine fk_top (fn_rt (b := true) (by first | assumption | (simp; omega) | simp_all | (simp_all; omega))) ?_
        exact hret (0, 0) _ 83 _ () d_Lg_append_83 (trivial) (by rw [if_neg (by omega)])
      · have h9 := he (len (tr - 1) - 1) (by omega)
        refine fk_aload_n 0 d_Lg_append_42 rfl ?_
        refine fk_get 0 2 rfl rfl fh_Lg (Nat.le_of_ble_eq_true rfl) fw_26 rfl d_Lg_append_43 ?_
        refine fk_aload_n 0 d_Lg_append_46 rfl ?_
        refine fk_iload_n 2 d_Lg_append_47 rfl ?_
        refine fk_iload_n 3 d_Lg_append_48 rfl ?_
        refine fk_iconst (v := nI 1) d_Lg_append_49 (by decide +kernel) ?_
        refine fk_isub (a := (len (tr - 1))) (b := 1) d_Lg_append_50 (by omega) ?_
        refine fk_callV (q0 := 0) (As := [.int (nI (tr - 1)), .int (nI ((len (tr - 1)) - 1))]) (rest := [.ref a3]) (is := [0, 2]) (ir := [1, 3]) (ip := [2, 0, 3, 1]) (wc := [(a0, .inr (1, [.ref a1, .ref a2, .ref a3, .int (nI tr)])), fk_ai E a2 300 ev]) (wr := [fk_ai E a1 20 len, fk_ai E a3 7 fo]) (w2 := fun _ => [(a0, .inr (1, [.ref a1, .ref a2, .ref a3, .int (nI tr)])), fk_ai E a1 20 len, fk_ai E a2 300 ev, fk_ai E a3 7 fo]) (cL_activityAt E a0 a1 a2 a3 tr ev (tr - 1) ((len (tr - 1)) - 1) (by first | omega | assumption)) d_Lg_append_51 fz_Lg_activityAt fw_176 rfl rfl fw_177 fw_178 ⟨Nat.le_of_ble_eq_true rfl, Nat.le_of_ble_eq_true rfl⟩ rfl (Nat.le_of_ble_eq_true rfl) ⟨Nat.zero_le _, Nat.zero_le _⟩ ⟨rfl, rfl, rfl, rfl, by decide, fun _ => rfl, rfl⟩ (fun u hu51 => ?_)
        show fk_V E _ K (0, 0) [(a0, .inr (1, [.ref a1, .ref a2, .ref a3, .int (nI tr)])), fk_ai E a1 20 len, fk_ai E a2 300 ev, fk_ai E a3 7 fo] 54 [(0, .ref a0), (1, .int (nI a)), (2, .int (nI (tr - 1))), (3, .int (nI (len (tr - 1))))] [.int (nI (ev (15 * (tr - 1) + ((len (tr - 1)) - 1)))), .ref a3]
        refine fk_dup2 d_Lg_append_54 rfl rfl ?_
        refine fk_ld_ai (i := (ev (15 * (tr - 1) + ((len (tr - 1)) - 1)))) 3 rfl (h9) (by decide) d_Lg_append_55 ?_
        refine fk_iconst (v := nI 1) d_Lg_append_56 (by decide +kernel) ?_
        refine fk_iload_n 1 d_Lg_append_57 rfl ?_
        refine fk_ishl (a := 1) (b := a) d_Lg_append_58 (by omega) (by have := fb_pow_lt ha; omega) ?_
        refine fk_top (show nI (1 * 2 ^ a) = nI (2 ^ a) by rw [Nat.one_mul]) ?_
        refine fk_ior (a := (fo (ev (15 * (tr - 1) + ((len (tr - 1)) - 1))))) (b := (2 ^ a)) d_Lg_append_59 ?_
        refine fk_st_ai (i := (ev (15 * (tr - 1) + ((len (tr - 1)) - 1)))) (x := ((fo (ev (15 * (tr - 1) + ((len (tr - 1)) - 1)))) ||| (2 ^ a))) (w' := [(a0, .inr (1, [.ref a1, .ref a2, .ref a3, .int (nI tr)])), fk_ai E a1 20 len, fk_ai E a2 300 ev, fk_ai E a3 7 (va_up fo (ev (15 * (tr - 1) + ((len (tr - 1)) - 1))) ((fo (ev (15 * (tr - 1) + ((len (tr - 1)) - 1)))) ||| (2 ^ a)))]) 3 rfl (h9) (by decide) d_Lg_append_60 rfl ?_
        refine fk_aload_n 0 d_Lg_append_61 rfl ?_
        refine fk_get 0 1 rfl rfl fh_Lg (Nat.le_of_ble_eq_true rfl) fw_25 rfl d_Lg_append_62 ?_
        refine fk_iload_n 2 d_Lg_append_65 rfl ?_
        refine fk_bipush (v := nI 15) d_Lg_append_66 (by decide +kernel) ?_
        refine fk_imul (a := (tr - 1)) (b := 15) d_Lg_append_68 ?_
        refine fk_iload_n 3 d_Lg_append_69 rfl ?_
        refine fk_iadd (a := ((tr - 1) * 15)) (b := (len (tr - 1))) d_Lg_append_70 ?_
        refine fk_top (show (nI (((tr - 1) * 15) + (len (tr - 1)))) = (nI (15 * (tr - 1) + len (tr - 1))) from congrArg nI (by omega)) ?_
        refine fk_iload_n 1 d_Lg_append_71 rfl ?_
        refine fk_st_ai (i := (15 * (tr - 1) + len (tr - 1))) (x := a) (w' := [(a0, .inr (1, [.ref a1, .ref a2, .ref a3, .int (nI tr)])), fk_ai E a1 20 len, fk_ai E a2 300 (va_up ev (15 * (tr - 1) + len (tr - 1)) a), fk_ai E a3 7 (va_up fo (ev (15 * (tr - 1) + ((len (tr - 1)) - 1))) ((fo (ev (15 * (tr - 1) + ((len (tr - 1)) - 1)))) ||| (2 ^ a)))]) 2 rfl (by omega) (by decide) d_Lg_append_72 rfl ?_
        refine fk_aload_n 0 d_Lg_append_73 rfl ?_
        refine fk_get 0 0 rfl rfl fh_Lg (Nat.le_of_ble_eq_true rfl) fw_24 rfl d_Lg_append_74 ?_
        refine fk_iload_n 2 d_Lg_append_77 rfl ?_
        refine fk_iload_n 3 d_Lg_append_78 rfl ?_
        refine fk_iconst (v := nI 1) d_Lg_append_79 (by decide +kernel) ?_
        refine fk_iadd (a := (len (tr - 1))) (b := 1) d_Lg_append_80 ?_
        refine fk_st_ai (i := (tr - 1)) (x := ((len (tr - 1)) + 1)) (w' := [(a0, .inr (1, [.ref a1, .ref a2, .ref a3, .int (nI tr)])), fk_ai E a1 20 (va_up len (tr - 1) ((len (tr - 1)) + 1)), fk_ai E a2 300 (va_up ev (15 * (tr - 1) + len (tr - 1)) a), fk_ai E a3 7 (va_up fo (ev (15 * (tr - 1) + ((len (tr - 1)) - 1))) ((fo (ev (15 * (tr - 1) + ((len (tr - 1)) - 1)))) ||| (2 ^ a)))]) 1 rfl (by omega) (by decide) d_Lg_append_81 rfl ?_
        refine fk_iconst (v := nI 1) d_Lg_append_82 (by decide +kernel) ?_
        refine fk_top (fn_rt (b := true) (by first | assumption | (simp; omega) | simp_all | (simp_all; omega))) ?_
        exact hret (0, 0) _ 83 _ () d_Lg_append_83 (trivial) (by rw [if_pos h39f])
    · omega
set_option maxRecDepth 20000 in
set_option maxHeartbeats 4000000 in
theorem cL_appendA (E : fk_E) (a0 : Nat) (a1 : Nat) (a2 : Nat) (a3 : Nat) (tr : Nat) (len : Nat → Nat) (ev : Nat → Nat) (fo : Nat → Nat) (a : Nat) (ha : 7 ≤ a) (ha2 : a < 2 ^ 31) : fk_C E fy_Lg_append prog_2_method_8_code 4 (some .boolean) 1 0 0 [.ref a0, .int (nI a)] [(a0, .inr (1, [.ref a1, .ref a2, .ref a3, .int (nI tr)])), fk_ai E a1 20 len, fk_ai E a2 300 ev, fk_ai E a3 7 fo] (S := Unit) (fun _ => some (.int (nI (Bool.toNat false)))) (fun _ => True) (fun _ => [(a0, .inr (1, [.ref a1, .ref a2, .ref a3, .int (nI tr)])), fk_ai E a1 20 len, fk_ai E a2 300 ev, fk_ai E a3 7 fo]) := by
  refine fk_enterZ (v := fun _ => false) (by decide) (Nat.le_of_ble_eq_true rfl) (lv0 := [(0, .ref a0), (1, .int (nI a))]) rfl ?_
  intro K hini hret
  refine fk_aload_n 0 d_Lg_append_0 rfl ?_
  refine fk_get 0 3 rfl rfl fh_Lg (Nat.le_of_ble_eq_true rfl) fw_27 rfl d_Lg_append_1 ?_
  refine fk_iconst (v := nI 1) d_Lg_append_4 (by decide +kernel) ?_
  refine fk_isubR d_Lg_append_5 ?_
  refine fk_istore_n (lv' := [(0, .ref a0), (1, .int (nI a)), (2, .int ((nI tr) - (nI 1)))]) d_Lg_append_6 rfl (Nat.le_of_ble_eq_true rfl) [1, 2, 0] rfl ?_
  refine fk_iload_n 1 d_Lg_append_7 rfl ?_
  refine fk_callSN (As := [.int (nI a)]) (rest := []) (is := []) (ir := [0, 1, 2, 3]) (ip := [0, 1, 2, 3]) (wc := []) (wr := [(a0, .inr (1, [.ref a1, .ref a2, .ref a3, .int (nI tr)])), fk_ai E a1 20 len, fk_ai E a2 300 ev, fk_ai E a3 7 fo]) (w2 := fun _ => [(a0, .inr (1, [.ref a1, .ref a2, .ref a3, .int (nI tr)])), fk_ai E a1 20 len, fk_ai E a2 300 ev, fk_ai E a3 7 fo]) (cF_isActivity E a (by first | omega | assumption)) d_Lg_append_8 fz_F_isActivity fw_173 fw_174 ⟨Nat.le_of_ble_eq_true rfl, Nat.le_of_ble_eq_true rfl⟩ rfl (Nat.le_of_ble_eq_true rfl) ⟨Nat.zero_le _, Nat.zero_le _⟩ ⟨rfl, rfl, rfl, rfl, by decide, fun _ => rfl, rfl⟩ (fun u hu8 => ?_)
  show fk_V E _ K (0, 0) [(a0, .inr (1, [.ref a1, .ref a2, .ref a3, .int (nI tr)])), fk_ai E a1 20 len, fk_ai E a2 300 ev, fk_ai E a3 7 fo] 11 [(0, .ref a0), (1, .int (nI a)), (2, .int ((nI tr) - (nI 1)))] [.int (nI (Bool.toNat (decide (a < 7))))]
  refine fk_if_eqB (b := (decide (a < 7))) d_Lg_append_11 rfl (fun h11t => ?_) (fun h11f => ?_)
  · refine fk_iconst (v := nI 0) d_Lg_append_29 (by decide +kernel) ?_
    refine fk_top (fn_rf (b := false) (by first | assumption | (simp; omega) | simp_all | (simp_all; omega))) ?_
    exact hret (0, 0) _ 30 _ () d_Lg_append_30 (trivial) (rfl)
  · exact absurd (of_decide_eq_true h11f) (by omega)
set_option maxRecDepth 20000 in
set_option maxHeartbeats 4000000 in
theorem cL_appendM (E : fk_E) (a0 : Nat) (a1 : Nat) (a2 : Nat) (a3 : Nat) (tr : Nat) (len : Nat → Nat) (ev : Nat → Nat) (fo : Nat → Nat) (x : Int32) (hx : x < 0) : fk_C E fy_Lg_append prog_2_method_8_code 4 (some .boolean) 1 0 0 [.ref a0, .int x] [(a0, .inr (1, [.ref a1, .ref a2, .ref a3, .int (nI tr)])), fk_ai E a1 20 len, fk_ai E a2 300 ev, fk_ai E a3 7 fo] (S := Unit) (fun _ => some (.int (nI (Bool.toNat false)))) (fun _ => True) (fun _ => [(a0, .inr (1, [.ref a1, .ref a2, .ref a3, .int (nI tr)])), fk_ai E a1 20 len, fk_ai E a2 300 ev, fk_ai E a3 7 fo]) := by
  refine fk_enterZ (v := fun _ => false) (by decide) (Nat.le_of_ble_eq_true rfl) (lv0 := [(0, .ref a0), (1, .int x)]) rfl ?_
  intro K hini hret
  refine fk_aload_n 0 d_Lg_append_0 rfl ?_
  refine fk_get 0 3 rfl rfl fh_Lg (Nat.le_of_ble_eq_true rfl) fw_27 rfl d_Lg_append_1 ?_
  refine fk_iconst (v := nI 1) d_Lg_append_4 (by decide +kernel) ?_
  refine fk_isubR d_Lg_append_5 ?_
  refine fk_istore_n (lv' := [(0, .ref a0), (1, .int x), (2, .int ((nI tr) - (nI 1)))]) d_Lg_append_6 rfl (Nat.le_of_ble_eq_true rfl) [1, 2, 0] rfl ?_
  refine fk_iload_n 1 d_Lg_append_7 rfl ?_
  refine fk_callSN (As := [.int x]) (rest := []) (is := []) (ir := [0, 1, 2, 3]) (ip := [0, 1, 2, 3]) (wc := []) (wr := [(a0, .inr (1, [.ref a1, .ref a2, .ref a3, .int (nI tr)])), fk_ai E a1 20 len, fk_ai E a2 300 ev, fk_ai E a3 7 fo]) (w2 := fun _ => [(a0, .inr (1, [.ref a1, .ref a2, .ref a3, .int (nI tr)])), fk_ai E a1 20 len, fk_ai E a2 300 ev, fk_ai E a3 7 fo]) (cF_isActivityM E x (by first | omega | assumption)) d_Lg_append_8 fz_F_isActivity fw_173 fw_174 ⟨Nat.le_of_ble_eq_true rfl, Nat.le_of_ble_eq_true rfl⟩ rfl (Nat.le_of_ble_eq_true rfl) ⟨Nat.zero_le _, Nat.zero_le _⟩ ⟨rfl, rfl, rfl, rfl, by decide, fun _ => rfl, rfl⟩ (fun u hu8 => ?_)
  show fk_V E _ K (0, 0) [(a0, .inr (1, [.ref a1, .ref a2, .ref a3, .int (nI tr)])), fk_ai E a1 20 len, fk_ai E a2 300 ev, fk_ai E a3 7 fo] 11 [(0, .ref a0), (1, .int x), (2, .int ((nI tr) - (nI 1)))] [.int (nI (Bool.toNat false))]
  refine fk_if_eqB (b := false) d_Lg_append_11 rfl (fun h11t => ?_) (fun h11f => ?_)
  · refine fk_iconst (v := nI 0) d_Lg_append_29 (by decide +kernel) ?_
    refine fk_top (fn_rf (b := false) (by first | assumption | (simp; omega) | simp_all | (simp_all; omega))) ?_
    exact hret (0, 0) _ 30 _ () d_Lg_append_30 (trivial) (rfl)
  · exact absurd h11f (by decide)
set_option maxRecDepth 20000 in
set_option maxHeartbeats 4000000 in
theorem cL_append0 (E : fk_E) (a0 : Nat) (a1 : Nat) (a2 : Nat) (a3 : Nat) (tr : Nat) (len : Nat → Nat) (ev : Nat → Nat) (fo : Nat → Nat) (a : Nat) (ha2 : a < 2 ^ 31) (h0 : tr = 0) : fk_C E fy_Lg_append prog_2_method_8_code 4 (some .boolean) 1 0 0 [.ref a0, .int (nI a)] [(a0, .inr (1, [.ref a1, .ref a2, .ref a3, .int (nI tr)])), fk_ai E a1 20 len, fk_ai E a2 300 ev, fk_ai E a3 7 fo] (S := Unit) (fun _ => some (.int (nI (Bool.toNat false)))) (fun _ => True) (fun _ => [(a0, .inr (1, [.ref a1, .ref a2, .ref a3, .int (nI tr)])), fk_ai E a1 20 len, fk_ai E a2 300 ev, fk_ai E a3 7 fo]) := by
  refine fk_enterZ (v := fun _ => false) (by decide) (Nat.le_of_ble_eq_true rfl) (lv0 := [(0, .ref a0), (1, .int (nI a))]) rfl ?_
  intro K hini hret
  refine fk_aload_n 0 d_Lg_append_0 rfl ?_
  refine fk_get 0 3 rfl rfl fh_Lg (Nat.le_of_ble_eq_true rfl) fw_27 rfl d_Lg_append_1 ?_
  refine fk_iconst (v := nI 1) d_Lg_append_4 (by decide +kernel) ?_
  refine fk_isubR d_Lg_append_5 ?_
  refine fk_istore_n (lv' := [(0, .ref a0), (1, .int (nI a)), (2, .int ((nI tr) - (nI 1)))]) d_Lg_append_6 rfl (Nat.le_of_ble_eq_true rfl) [1, 2, 0] rfl ?_
  refine fk_iload_n 1 d_Lg_append_7 rfl ?_
  refine fk_callSN (As := [.int (nI a)]) (rest := []) (is := []) (ir := [0, 1, 2, 3]) (ip := [0, 1, 2, 3]) (wc := []) (wr := [(a0, .inr (1, [.ref a1, .ref a2, .ref a3, .int (nI tr)])), fk_ai E a1 20 len, fk_ai E a2 300 ev, fk_ai E a3 7 fo]) (w2 := fun _ => [(a0, .inr (1, [.ref a1, .ref a2, .ref a3, .int (nI tr)])), fk_ai E a1 20 len, fk_ai E a2 300 ev, fk_ai E a3 7 fo]) (cF_isActivity E a (by first | omega | assumption)) d_Lg_append_8 fz_F_isActivity fw_173 fw_174 ⟨Nat.le_of_ble_eq_true rfl, Nat.le_of_ble_eq_true rfl⟩ rfl (Nat.le_of_ble_eq_true rfl) ⟨Nat.zero_le _, Nat.zero_le _⟩ ⟨rfl, rfl, rfl, rfl, by decide, fun _ => rfl, rfl⟩ (fun u hu8 => ?_)
  show fk_V E _ K (0, 0) [(a0, .inr (1, [.ref a1, .ref a2, .ref a3, .int (nI tr)])), fk_ai E a1 20 len, fk_ai E a2 300 ev, fk_ai E a3 7 fo] 11 [(0, .ref a0), (1, .int (nI a)), (2, .int ((nI tr) - (nI 1)))] [.int (nI (Bool.toNat (decide (a < 7))))]
  refine fk_if_eqB (b := (decide (a < 7))) d_Lg_append_11 rfl (fun h11t => ?_) (fun h11f => ?_)
  · refine fk_iconst (v := nI 0) d_Lg_append_29 (by decide +kernel) ?_
    refine fk_top (fn_rf (b := false) (by first | assumption | (simp; omega) | simp_all | (simp_all; omega))) ?_
    exact hret (0, 0) _ 30 _ () d_Lg_append_30 (trivial) (rfl)
  · refine fk_iload_n 2 d_Lg_append_14 rfl ?_
    refine fk_if_ltR d_Lg_append_15 rfl (fun h15t => ?_) (fun h15f => ?_)
    · refine fk_iconst (v := nI 0) d_Lg_append_29 (by decide +kernel) ?_
      refine fk_top (fn_rf (b := false) (by first | assumption | (simp; omega) | simp_all | (simp_all; omega))) ?_
      exact hret (0, 0) _ 30 _ () d_Lg_append_30 (trivial) (rfl)
    · exact absurd (by rw [h0]; decide) h15f
set_option maxRecDepth 20000 in
set_option maxHeartbeats 4000000 in
theorem cL_appendF (E : fk_E) (a0 : Nat) (a1 : Nat) (a2 : Nat) (a3 : Nat) (tr : Nat) (len : Nat → Nat) (ev : Nat → Nat) (fo : Nat → Nat) (a : Nat) (ha2 : a < 2 ^ 31) (h0 : 0 < tr) (ht : tr ≤ 20) (hl : len (tr - 1) = 15) : fk_C E fy_Lg_append prog_2_method_8_code 4 (some .boolean) 1 0 0 [.ref a0, .int (nI a)] [(a0, .inr (1, [.ref a1, .ref a2, .ref a3, .int (nI tr)])), fk_ai E a1 20 len, fk_ai E a2 300 ev, fk_ai E a3 7 fo] (S := Unit) (fun _ => some (.int (nI (Bool.toNat false)))) (fun _ => True) (fun _ => [(a0, .inr (1, [.ref a1, .ref a2, .ref a3, .int (nI tr)])), fk_ai E a1 20 len, fk_ai E a2 300 ev, fk_ai E a3 7 fo]) := by
  refine fk_enterZ (v := fun _ => false) (by decide) (Nat.le_of_ble_eq_true rfl) (lv0 := [(0, .ref a0), (1, .int (nI a))]) rfl ?_
  intro K hini hret
  refine fk_aload_n 0 d_Lg_append_0 rfl ?_
  refine fk_get 0 3 rfl rfl fh_Lg (Nat.le_of_ble_eq_true rfl) fw_27 rfl d_Lg_append_1 ?_
  refine fk_iconst (v := nI 1) d_Lg_append_4 (by decide +kernel) ?_
  refine fk_isub (a := tr) (b := 1) d_Lg_append_5 (by omega) ?_
  refine fk_istore_n (lv' := [(0, .ref a0), (1, .int (nI a)), (2, .int (nI (tr - 1)))]) d_Lg_append_6 rfl (Nat.le_of_ble_eq_true rfl) [1, 2, 0] rfl ?_
  refine fk_iload_n 1 d_Lg_append_7 rfl ?_
  refine fk_callSN (As := [.int (nI a)]) (rest := []) (is := []) (ir := [0, 1, 2, 3]) (ip := [0, 1, 2, 3]) (wc := []) (wr := [(a0, .inr (1, [.ref a1, .ref a2, .ref a3, .int (nI tr)])), fk_ai E a1 20 len, fk_ai E a2 300 ev, fk_ai E a3 7 fo]) (w2 := fun _ => [(a0, .inr (1, [.ref a1, .ref a2, .ref a3, .int (nI tr)])), fk_ai E a1 20 len, fk_ai E a2 300 ev, fk_ai E a3 7 fo]) (cF_isActivity E a (by first | omega | assumption)) d_Lg_append_8 fz_F_isActivity fw_173 fw_174 ⟨Nat.le_of_ble_eq_true rfl, Nat.le_of_ble_eq_true rfl⟩ rfl (Nat.le_of_ble_eq_true rfl) ⟨Nat.zero_le _, Nat.zero_le _⟩ ⟨rfl, rfl, rfl, rfl, by decide, fun _ => rfl, rfl⟩ (fun u hu8 => ?_)
  show fk_V E _ K (0, 0) [(a0, .inr (1, [.ref a1, .ref a2, .ref a3, .int (nI tr)])), fk_ai E a1 20 len, fk_ai E a2 300 ev, fk_ai E a3 7 fo] 11 [(0, .ref a0), (1, .int (nI a)), (2, .int (nI (tr - 1)))] [.int (nI (Bool.toNat (decide (a < 7))))]
  refine fk_if_eqB (b := (decide (a < 7))) d_Lg_append_11 rfl (fun h11t => ?_) (fun h11f => ?_)
  · refine fk_iconst (v := nI 0) d_Lg_append_29 (by decide +kernel) ?_
    refine fk_top (fn_rf (b := false) (by first | assumption | (simp; omega) | simp_all | (simp_all; omega))) ?_
    exact hret (0, 0) _ 30 _ () d_Lg_append_30 (trivial) (rfl)
  · refine fk_iload_n 2 d_Lg_append_14 rfl ?_
    refine fk_if_lt (by omega) d_Lg_append_15 rfl ?_
    refine fk_aload_n 0 d_Lg_append_18 rfl ?_
    refine fk_get 0 0 rfl rfl fh_Lg (Nat.le_of_ble_eq_true rfl) fw_24 rfl d_Lg_append_19 ?_
    refine fk_iload_n 2 d_Lg_append_22 rfl ?_
    refine fk_ld_ai (i := (tr - 1)) 1 rfl (by omega) (by decide) d_Lg_append_23 ?_
    refine fk_bipush (v := nI 15) d_Lg_append_24 (by decide +kernel) ?_
    refine fk_icmp_ne (a := (len (tr - 1))) (b := 15) (by omega) (by omega) d_Lg_append_26 rfl (fun h26t => ?_) (fun h26f => ?_)
    · exact absurd hl h26t
    · refine fk_iconst (v := nI 0) d_Lg_append_29 (by decide +kernel) ?_
      refine fk_top (fn_rf (b := false) (by first | assumption | (simp; omega) | simp_all | (simp_all; omega))) ?_
      exact hret (0, 0) _ 30 _ () d_Lg_append_30 (trivial) (rfl)
theorem d_Lg_occurring_0 : decode prog_2_method_11_code 0 = .ok (.iconst 0, 1) := by decide +kernel
theorem d_Lg_occurring_1 : decode prog_2_method_11_code 1 = .ok (.istore_n 1, 1) := by decide +kernel
theorem d_Lg_occurring_2 : decode prog_2_method_11_code 2 = .ok (.iconst 0, 1) := by decide +kernel
theorem d_Lg_occurring_3 : decode prog_2_method_11_code 3 = .ok (.istore_n 2, 1) := by decide +kernel
theorem d_Lg_occurring_4 : decode prog_2_method_11_code 4 = .ok (.iload_n 2, 1) := by decide +kernel
theorem d_Lg_occurring_5 : decode prog_2_method_11_code 5 = .ok (.aload_n 0, 1) := by decide +kernel
theorem d_Lg_occurring_6 : decode prog_2_method_11_code 6 = .ok (.getfield 21, 3) := by decide +kernel
theorem d_Lg_occurring_9 : decode prog_2_method_11_code 9 = .ok (.if_icmp .ge 38, 3) := by decide +kernel
theorem d_Lg_occurring_12 : decode prog_2_method_11_code 12 = .ok (.iconst 0, 1) := by decide +kernel
theorem d_Lg_occurring_13 : decode prog_2_method_11_code 13 = .ok (.istore_n 3, 1) := by decide +kernel
theorem d_Lg_occurring_14 : decode prog_2_method_11_code 14 = .ok (.iload_n 3, 1) := by decide +kernel
theorem d_Lg_occurring_15 : decode prog_2_method_11_code 15 = .ok (.aload_n 0, 1) := by decide +kernel
theorem d_Lg_occurring_16 : decode prog_2_method_11_code 16 = .ok (.getfield 9, 3) := by decide +kernel
theorem d_Lg_occurring_19 : decode prog_2_method_11_code 19 = .ok (.iload_n 2, 1) := by decide +kernel
theorem d_Lg_occurring_20 : decode prog_2_method_11_code 20 = .ok (.iaload, 1) := by decide +kernel
theorem d_Lg_occurring_21 : decode prog_2_method_11_code 21 = .ok (.if_icmp .ge 20, 3) := by decide +kernel
theorem d_Lg_occurring_24 : decode prog_2_method_11_code 24 = .ok (.iload_n 1, 1) := by decide +kernel
theorem d_Lg_occurring_25 : decode prog_2_method_11_code 25 = .ok (.iconst 1, 1) := by decide +kernel
theorem d_Lg_occurring_26 : decode prog_2_method_11_code 26 = .ok (.aload_n 0, 1) := by decide +kernel
theorem d_Lg_occurring_27 : decode prog_2_method_11_code 27 = .ok (.iload_n 2, 1) := by decide +kernel
theorem d_Lg_occurring_28 : decode prog_2_method_11_code 28 = .ok (.iload_n 3, 1) := by decide +kernel
theorem d_Lg_occurring_29 : decode prog_2_method_11_code 29 = .ok (.invokevirtual 36, 3) := by decide +kernel
theorem d_Lg_occurring_32 : decode prog_2_method_11_code 32 = .ok (.ishl, 1) := by decide +kernel
theorem d_Lg_occurring_33 : decode prog_2_method_11_code 33 = .ok (.ior, 1) := by decide +kernel
theorem d_Lg_occurring_34 : decode prog_2_method_11_code 34 = .ok (.istore_n 1, 1) := by decide +kernel
theorem d_Lg_occurring_35 : decode prog_2_method_11_code 35 = .ok (.iinc 3 1, 3) := by decide +kernel
theorem d_Lg_occurring_38 : decode prog_2_method_11_code 38 = .ok (.goto (-24), 3) := by decide +kernel
theorem d_Lg_occurring_41 : decode prog_2_method_11_code 41 = .ok (.iinc 2 1, 3) := by decide +kernel
theorem d_Lg_occurring_44 : decode prog_2_method_11_code 44 = .ok (.goto (-40), 3) := by decide +kernel
theorem d_Lg_occurring_47 : decode prog_2_method_11_code 47 = .ok (.iload_n 1, 1) := by decide +kernel
theorem d_Lg_occurring_48 : decode prog_2_method_11_code 48 = .ok (.ireturn, 1) := by decide +kernel
set_option maxRecDepth 20000 in
set_option maxHeartbeats 4000000 in
theorem cL_occurring (E : fk_E) (a0 : Nat) (a1 : Nat) (a2 : Nat) (a3 : Nat) (tr : Nat) (len : Nat → Nat) (ev : Nat → Nat) (ht : tr ≤ 20) (hl : ∀ t, t < tr → len t ≤ 15) (he : ∀ t, t < tr → ∀ i, i < len t → ev (15 * t + i) < 7) : fk_C E fy_Lg_occurring prog_2_method_11_code 4 (some .int) 1 0 0 [.ref a0] [(a0, .inr (1, [.ref a1, .ref a2, .ref a3, .int (nI tr)])), fk_ai E a1 20 len, fk_ai E a2 300 ev] (S := Unit) (fun _ => some (.int (nI (fs_set (fg_oc tr len ev) 7)))) (fun _ => True) (fun _ => [(a0, .inr (1, [.ref a1, .ref a2, .ref a3, .int (nI tr)])), fk_ai E a1 20 len, fk_ai E a2 300 ev]) := by
  refine fk_enterI (v := fun _ => (nI (fs_set (fg_oc tr len ev) 7))) (by decide) (Nat.le_of_ble_eq_true rfl) (lv0 := [(0, .ref a0)]) rfl ?_
  intro K hini hret
  refine fk_iconst (v := nI 0) d_Lg_occurring_0 (by decide +kernel) ?_
  refine fk_istore_n (lv' := [(0, .ref a0), (1, .int (nI 0))]) d_Lg_occurring_1 rfl (Nat.le_of_ble_eq_true rfl) [1, 0] rfl ?_
  refine fk_iconst (v := nI 0) d_Lg_occurring_2 (by decide +kernel) ?_
  refine fk_istore_n (lv' := [(0, .ref a0), (1, .int (nI 0)), (2, .int (nI 0))]) d_Lg_occurring_3 rfl (Nat.le_of_ble_eq_true rfl) [1, 2, 0] rfl ?_
  have L4 : ∀ (fuel : Nat) (s : Nat) (t : Nat), (t ≤ tr) → (s < 128) → (∀ a, s.testBit a = fg_oc t len ev a) → tr - t < fuel → fk_V E (prog_2_method_11_code, fy_Lg_occurring.cls, 4, fk_rm 1 0 0) K (0, 0) [(a0, .inr (1, [.ref a1, .ref a2, .ref a3, .int (nI tr)])), fk_ai E a1 20 len, fk_ai E a2 300 ev] 4 [(0, .ref a0), (1, .int (nI s)), (2, .int (nI t))] [] := by
    intro fuel
    induction fuel with
    | zero => intro s t _ _ _ hm; exact absurd hm (Nat.not_lt_zero _)
    | succ fuel ih =>
      intro s t h1 h2 h3 hm4
      have ih4 := ih
      clear ih
      refine fk_iload_n 2 d_Lg_occurring_4 rfl ?_
      refine fk_aload_n 0 d_Lg_occurring_5 rfl ?_
      refine fk_get 0 3 rfl rfl fh_Lg (Nat.le_of_ble_eq_true rfl) fw_27 rfl d_Lg_occurring_6 ?_
      refine fk_icmp_ge (a := t) (b := tr) (by omega) (by omega) d_Lg_occurring_9 rfl (fun h9t => ?_) (fun h9f => ?_)
      · refine fk_iload_n 1 d_Lg_occurring_47 rfl ?_
        refine fk_top (congrArg nI (show s = fs_set (fg_oc tr len ev) 7 from by rw [show tr = t by omega]; exact fs_set_of h2 h3)) ?_
        exact hret (0, 0) _ 48 _ () d_Lg_occurring_48 (trivial) (rfl)
      · have h7 := hl t (by omega)
        refine fk_iconst (v := nI 0) d_Lg_occurring_12 (by decide +kernel) ?_
        refine fk_istore_n (lv' := [(0, .ref a0), (1, .int (nI s)), (2, .int (nI t)), (3, .int (nI 0))]) d_Lg_occurring_13 rfl (Nat.le_of_ble_eq_true rfl) [1, 2, 3, 0] rfl ?_
        have L14 : ∀ (fuel : Nat) (s2 : Nat) (i : Nat), (i ≤ len t) → (s2 < 128) → (∀ a, s2.testBit a = (fg_oc t len ev a || fs_any (fun i => decide (ev (15 * t + i) = a)) i)) → len t - i < fuel → fk_V E (prog_2_method_11_code, fy_Lg_occurring.cls, 4, fk_rm 1 0 0) K (0, 0) [(a0, .inr (1, [.ref a1, .ref a2, .ref a3, .int (nI tr)])), fk_ai E a1 20 len, fk_ai E a2 300 ev] 14 [(0, .ref a0), (1, .int (nI s2)), (2, .int (nI t)), (3, .int (nI i))] [] := by
          intro fuel
          induction fuel with
          | zero => intro s2 i _ _ _ hm; exact absurd hm (Nat.not_lt_zero _)
          | succ fuel ih =>
            intro s2 i h4 h5 h6 hm14
            have ih14 := ih
            clear ih
            have h7 := hl t (by omega)
            refine fk_iload_n 3 d_Lg_occurring_14 rfl ?_
            refine fk_aload_n 0 d_Lg_occurring_15 rfl ?_
            refine fk_get 0 0 rfl rfl fh_Lg (Nat.le_of_ble_eq_true rfl) fw_24 rfl d_Lg_occurring_16 ?_
            refine fk_iload_n 2 d_Lg_occurring_19 rfl ?_
            refine fk_ld_ai (i := t) 1 rfl (by omega) (by decide) d_Lg_occurring_20 ?_
            refine fk_icmp_ge (a := i) (b := (len t)) (by omega) (by omega) d_Lg_occurring_21 rfl (fun h21t => ?_) (fun h21f => ?_)
            · refine fk_iinc (j := 2) (lv' := [(0, .ref a0), (1, .int (nI s2)), (2, .int (nI (t + 1))), (3, .int (nI i))]) (t + 1) d_Lg_occurring_41 rfl (nI_1 t) (Nat.le_of_ble_eq_true rfl) [1, 2, 0, 3] rfl ?_
              refine fk_goto d_Lg_occurring_44 rfl ?_
              refine fk_lv (lv' := [(0, .ref a0), (1, .int (nI s2)), (2, .int (nI (t + 1)))]) [0, 1, 2] rfl ?_
              refine ih4 _ _ ?_ ?_ ?_ ?_
              · first | omega | assumption | exact Nat.zero_le _
              · first | omega | assumption | exact Nat.zero_le _
              · intro a
                rw [h6 a, show i = len t by omega]
                rfl
              · omega
            · have h8 := he t (by omega) i (by omega)
              refine fk_iload_n 1 d_Lg_occurring_24 rfl ?_
              refine fk_iconst (v := nI 1) d_Lg_occurring_25 (by decide +kernel) ?_
              refine fk_aload_n 0 d_Lg_occurring_26 rfl ?_
              refine fk_iload_n 2 d_Lg_occurring_27 rfl ?_
              refine fk_iload_n 3 d_Lg_occurring_28 rfl ?_
              refine fk_callV (q0 := 0) (As := [.int (nI t), .int (nI i)]) (rest := [.int (nI 1), .int (nI s2)]) (is := [0, 2]) (ir := [1]) (ip := [1, 0, 2]) (wc := [(a0, .inr (1, [.ref a1, .ref a2, .ref a3, .int (nI tr)])), fk_ai E a2 300 ev]) (wr := [fk_ai E a1 20 len]) (w2 := fun _ => [(a0, .inr (1, [.ref a1, .ref a2, .ref a3, .int (nI tr)])), fk_ai E a1 20 len, fk_ai E a2 300 ev]) (cL_activityAt E a0 a1 a2 a3 tr ev t i (by first | omega | assumption)) d_Lg_occurring_29 fz_Lg_activityAt fw_176 rfl rfl fw_177 fw_178 ⟨Nat.le_of_ble_eq_true rfl, Nat.le_of_ble_eq_true rfl⟩ rfl (Nat.le_of_ble_eq_true rfl) ⟨Nat.zero_le _, Nat.zero_le _⟩ ⟨rfl, rfl, rfl, rfl, by decide, fun _ => rfl, rfl⟩ (fun u hu29 => ?_)
              show fk_V E _ K (0, 0) [(a0, .inr (1, [.ref a1, .ref a2, .ref a3, .int (nI tr)])), fk_ai E a1 20 len, fk_ai E a2 300 ev] 32 [(0, .ref a0), (1, .int (nI s2)), (2, .int (nI t)), (3, .int (nI i))] [.int (nI (ev (15 * t + i))), .int (nI 1), .int (nI s2)]
              refine fk_ishl (a := 1) (b := (ev (15 * t + i))) d_Lg_occurring_32 (by omega) (by have := fb_pow_lt h8; omega) ?_
              refine fk_top (show nI (1 * 2 ^ (ev (15 * t + i))) = nI (2 ^ (ev (15 * t + i))) by rw [Nat.one_mul]) ?_
              refine fk_ior (a := s2) (b := (2 ^ (ev (15 * t + i)))) d_Lg_occurring_33 ?_
              refine fk_istore_n (lv' := [(0, .ref a0), (1, .int (nI (s2 ||| (2 ^ (ev (15 * t + i)))))), (2, .int (nI t)), (3, .int (nI i))]) d_Lg_occurring_34 rfl (Nat.le_of_ble_eq_true rfl) [1, 0, 2, 3] rfl ?_
              refine fk_iinc (j := 3) (lv' := [(0, .ref a0), (1, .int (nI (s2 ||| (2 ^ (ev (15 * t + i)))))), (2, .int (nI t)), (3, .int (nI (i + 1)))]) (i + 1) d_Lg_occurring_35 rfl (nI_1 i) (Nat.le_of_ble_eq_true rfl) [1, 2, 3, 0] rfl ?_
              refine fk_goto d_Lg_occurring_38 rfl ?_
              refine ih14 _ _ ?_ ?_ ?_ ?_
              · first | omega | assumption | exact Nat.zero_le _
              · exact fb_or_lt h5 (fb_pow_lt h8)
              · intro a
                rw [fb_or_bit, h6 a, fs_any_s, Bool.or_assoc]
              · omega
        refine L14 _ _ _ ?_ ?_ ?_ (Nat.lt_succ_self _)
        · first | omega | assumption | exact Nat.zero_le _
        · first | omega | assumption | exact Nat.zero_le _
        · intro a
          rw [h3 a]
          exact (Bool.or_false _).symm
  refine L4 _ _ _ ?_ ?_ ?_ (Nat.lt_succ_self _)
  · first | omega | assumption | exact Nat.zero_le _
  · decide
  · exact fun a => Nat.zero_testBit a
theorem d_Lg_beginners_0 : decode prog_2_method_12_code 0 = .ok (.iconst 0, 1) := by decide +kernel
theorem d_Lg_beginners_1 : decode prog_2_method_12_code 1 = .ok (.istore_n 1, 1) := by decide +kernel
theorem d_Lg_beginners_2 : decode prog_2_method_12_code 2 = .ok (.iconst 0, 1) := by decide +kernel
theorem d_Lg_beginners_3 : decode prog_2_method_12_code 3 = .ok (.istore_n 2, 1) := by decide +kernel
theorem d_Lg_beginners_4 : decode prog_2_method_12_code 4 = .ok (.iload_n 2, 1) := by decide +kernel
theorem d_Lg_beginners_5 : decode prog_2_method_12_code 5 = .ok (.aload_n 0, 1) := by decide +kernel
theorem d_Lg_beginners_6 : decode prog_2_method_12_code 6 = .ok (.getfield 21, 3) := by decide +kernel
theorem d_Lg_beginners_9 : decode prog_2_method_12_code 9 = .ok (.if_icmp .ge 29, 3) := by decide +kernel
theorem d_Lg_beginners_12 : decode prog_2_method_12_code 12 = .ok (.aload_n 0, 1) := by decide +kernel
theorem d_Lg_beginners_13 : decode prog_2_method_12_code 13 = .ok (.getfield 9, 3) := by decide +kernel
theorem d_Lg_beginners_16 : decode prog_2_method_12_code 16 = .ok (.iload_n 2, 1) := by decide +kernel
theorem d_Lg_beginners_17 : decode prog_2_method_12_code 17 = .ok (.iaload, 1) := by decide +kernel
theorem d_Lg_beginners_18 : decode prog_2_method_12_code 18 = .ok (.ifCond .le 14, 3) := by decide +kernel
theorem d_Lg_beginners_21 : decode prog_2_method_12_code 21 = .ok (.iload_n 1, 1) := by decide +kernel
theorem d_Lg_beginners_22 : decode prog_2_method_12_code 22 = .ok (.iconst 1, 1) := by decide +kernel
theorem d_Lg_beginners_23 : decode prog_2_method_12_code 23 = .ok (.aload_n 0, 1) := by decide +kernel
theorem d_Lg_beginners_24 : decode prog_2_method_12_code 24 = .ok (.iload_n 2, 1) := by decide +kernel
theorem d_Lg_beginners_25 : decode prog_2_method_12_code 25 = .ok (.iconst 0, 1) := by decide +kernel
theorem d_Lg_beginners_26 : decode prog_2_method_12_code 26 = .ok (.invokevirtual 36, 3) := by decide +kernel
theorem d_Lg_beginners_29 : decode prog_2_method_12_code 29 = .ok (.ishl, 1) := by decide +kernel
theorem d_Lg_beginners_30 : decode prog_2_method_12_code 30 = .ok (.ior, 1) := by decide +kernel
theorem d_Lg_beginners_31 : decode prog_2_method_12_code 31 = .ok (.istore_n 1, 1) := by decide +kernel
theorem d_Lg_beginners_32 : decode prog_2_method_12_code 32 = .ok (.iinc 2 1, 3) := by decide +kernel
theorem d_Lg_beginners_35 : decode prog_2_method_12_code 35 = .ok (.goto (-31), 3) := by decide +kernel
theorem d_Lg_beginners_38 : decode prog_2_method_12_code 38 = .ok (.iload_n 1, 1) := by decide +kernel
theorem d_Lg_beginners_39 : decode prog_2_method_12_code 39 = .ok (.ireturn, 1) := by decide +kernel
set_option maxRecDepth 20000 in
set_option maxHeartbeats 4000000 in
theorem cL_beginners (E : fk_E) (a0 : Nat) (a1 : Nat) (a2 : Nat) (a3 : Nat) (tr : Nat) (len : Nat → Nat) (ev : Nat → Nat) (ht : tr ≤ 20) (hl : ∀ t, t < tr → len t ≤ 15) (he : ∀ t, t < tr → ∀ i, i < len t → ev (15 * t + i) < 7) : fk_C E fy_Lg_beginners prog_2_method_12_code 3 (some .int) 1 0 0 [.ref a0] [(a0, .inr (1, [.ref a1, .ref a2, .ref a3, .int (nI tr)])), fk_ai E a1 20 len, fk_ai E a2 300 ev] (S := Unit) (fun _ => some (.int (nI (fs_set (fg_be tr len ev) 7)))) (fun _ => True) (fun _ => [(a0, .inr (1, [.ref a1, .ref a2, .ref a3, .int (nI tr)])), fk_ai E a1 20 len, fk_ai E a2 300 ev]) := by
  refine fk_enterI (v := fun _ => (nI (fs_set (fg_be tr len ev) 7))) (by decide) (Nat.le_of_ble_eq_true rfl) (lv0 := [(0, .ref a0)]) rfl ?_
  intro K hini hret
  refine fk_iconst (v := nI 0) d_Lg_beginners_0 (by decide +kernel) ?_
  refine fk_istore_n (lv' := [(0, .ref a0), (1, .int (nI 0))]) d_Lg_beginners_1 rfl (Nat.le_of_ble_eq_true rfl) [1, 0] rfl ?_
  refine fk_iconst (v := nI 0) d_Lg_beginners_2 (by decide +kernel) ?_
  refine fk_istore_n (lv' := [(0, .ref a0), (1, .int (nI 0)), (2, .int (nI 0))]) d_Lg_beginners_3 rfl (Nat.le_of_ble_eq_true rfl) [1, 2, 0] rfl ?_
  have L4 : ∀ (fuel : Nat) (s : Nat) (t : Nat), (t ≤ tr) → (s < 128) → (∀ a, s.testBit a = fg_be t len ev a) → tr - t < fuel → fk_V E (prog_2_method_12_code, fy_Lg_beginners.cls, 3, fk_rm 1 0 0) K (0, 0) [(a0, .inr (1, [.ref a1, .ref a2, .ref a3, .int (nI tr)])), fk_ai E a1 20 len, fk_ai E a2 300 ev] 4 [(0, .ref a0), (1, .int (nI s)), (2, .int (nI t))] [] := by
    intro fuel
    induction fuel with
    | zero => intro s t _ _ _ hm; exact absurd hm (Nat.not_lt_zero _)
    | succ fuel ih =>
      intro s t h1 h2 h3 hm4
      have ih4 := ih
      clear ih
      refine fk_iload_n 2 d_Lg_beginners_4 rfl ?_
      refine fk_aload_n 0 d_Lg_beginners_5 rfl ?_
      refine fk_get 0 3 rfl rfl fh_Lg (Nat.le_of_ble_eq_true rfl) fw_27 rfl d_Lg_beginners_6 ?_
      refine fk_icmp_ge (a := t) (b := tr) (by omega) (by omega) d_Lg_beginners_9 rfl (fun h9t => ?_) (fun h9f => ?_)
      · refine fk_iload_n 1 d_Lg_beginners_38 rfl ?_
        refine fk_top (congrArg nI (show s = fs_set (fg_be tr len ev) 7 from by rw [show tr = t by omega]; exact fs_set_of h2 h3)) ?_
        exact hret (0, 0) _ 39 _ () d_Lg_beginners_39 (trivial) (rfl)
      · have h7 := hl t (by omega)
        refine fk_aload_n 0 d_Lg_beginners_12 rfl ?_
        refine fk_get 0 0 rfl rfl fh_Lg (Nat.le_of_ble_eq_true rfl) fw_24 rfl d_Lg_beginners_13 ?_
        refine fk_iload_n 2 d_Lg_beginners_16 rfl ?_
        refine fk_ld_ai (i := t) 1 rfl (by omega) (by decide) d_Lg_beginners_17 ?_
        refine fk_if_le (a := (len t)) (by omega) d_Lg_beginners_18 rfl (fun h18t => ?_) (fun h18f => ?_)
        · refine fk_iinc (j := 2) (lv' := [(0, .ref a0), (1, .int (nI s)), (2, .int (nI (t + 1)))]) (t + 1) d_Lg_beginners_32 rfl (nI_1 t) (Nat.le_of_ble_eq_true rfl) [1, 2, 0] rfl ?_
          refine fk_goto d_Lg_beginners_35 rfl ?_
          refine ih4 _ _ ?_ ?_ ?_ ?_
          · first | omega | assumption | exact Nat.zero_le _
          · first | exact fb_or_lt h2 (fb_pow_lt h8) | assumption
          · intro a
            first | (rw [fb_or_bit, h3 a, fg_be_s, decide_eq_true h18f, Bool.true_and]; done) | rw [h3 a, fg_be_s, decide_eq_false (show ¬ 0 < len t by omega), Bool.false_and, Bool.or_false]
          · omega
        · have h8 := he t (by omega) 0 (by omega)
          refine fk_iload_n 1 d_Lg_beginners_21 rfl ?_
          refine fk_iconst (v := nI 1) d_Lg_beginners_22 (by decide +kernel) ?_
          refine fk_aload_n 0 d_Lg_beginners_23 rfl ?_
          refine fk_iload_n 2 d_Lg_beginners_24 rfl ?_
          refine fk_iconst (v := nI 0) d_Lg_beginners_25 (by decide +kernel) ?_
          refine fk_callV (q0 := 0) (As := [.int (nI t), .int (nI 0)]) (rest := [.int (nI 1), .int (nI s)]) (is := [0, 2]) (ir := [1]) (ip := [1, 0, 2]) (wc := [(a0, .inr (1, [.ref a1, .ref a2, .ref a3, .int (nI tr)])), fk_ai E a2 300 ev]) (wr := [fk_ai E a1 20 len]) (w2 := fun _ => [(a0, .inr (1, [.ref a1, .ref a2, .ref a3, .int (nI tr)])), fk_ai E a1 20 len, fk_ai E a2 300 ev]) (cL_activityAt E a0 a1 a2 a3 tr ev t 0 (by first | omega | assumption)) d_Lg_beginners_26 fz_Lg_activityAt fw_176 rfl rfl fw_177 fw_178 ⟨Nat.le_of_ble_eq_true rfl, Nat.le_of_ble_eq_true rfl⟩ rfl (Nat.le_of_ble_eq_true rfl) ⟨Nat.zero_le _, Nat.zero_le _⟩ ⟨rfl, rfl, rfl, rfl, by decide, fun _ => rfl, rfl⟩ (fun u hu26 => ?_)
          show fk_V E _ K (0, 0) [(a0, .inr (1, [.ref a1, .ref a2, .ref a3, .int (nI tr)])), fk_ai E a1 20 len, fk_ai E a2 300 ev] 29 [(0, .ref a0), (1, .int (nI s)), (2, .int (nI t))] [.int (nI (ev (15 * t + 0))), .int (nI 1), .int (nI s)]
          refine fk_ishl (a := 1) (b := (ev (15 * t + 0))) d_Lg_beginners_29 (by omega) (by have := fb_pow_lt h8; omega) ?_
          refine fk_top (show nI (1 * 2 ^ (ev (15 * t + 0))) = nI (2 ^ (ev (15 * t + 0))) by rw [Nat.one_mul]) ?_
          refine fk_ior (a := s) (b := (2 ^ (ev (15 * t + 0)))) d_Lg_beginners_30 ?_
          refine fk_istore_n (lv' := [(0, .ref a0), (1, .int (nI (s ||| (2 ^ (ev (15 * t + 0)))))), (2, .int (nI t))]) d_Lg_beginners_31 rfl (Nat.le_of_ble_eq_true rfl) [1, 0, 2] rfl ?_
          refine fk_iinc (j := 2) (lv' := [(0, .ref a0), (1, .int (nI (s ||| (2 ^ (ev (15 * t + 0)))))), (2, .int (nI (t + 1)))]) (t + 1) d_Lg_beginners_32 rfl (nI_1 t) (Nat.le_of_ble_eq_true rfl) [1, 2, 0] rfl ?_
          refine fk_goto d_Lg_beginners_35 rfl ?_
          refine ih4 _ _ ?_ ?_ ?_ ?_
          · first | omega | assumption | exact Nat.zero_le _
          · first | exact fb_or_lt h2 (fb_pow_lt h8) | assumption
          · intro a
            first | (rw [fb_or_bit, h3 a, fg_be_s, decide_eq_true h18f, Bool.true_and]; done) | rw [h3 a, fg_be_s, decide_eq_false (show ¬ 0 < len t by omega), Bool.false_and, Bool.or_false]
          · omega
  refine L4 _ _ _ ?_ ?_ ?_ (Nat.lt_succ_self _)
  · first | omega | assumption | exact Nat.zero_le _
  · decide
  · exact fun a => Nat.zero_testBit a
theorem d_Lg_enders_0 : decode prog_2_method_13_code 0 = .ok (.iconst 0, 1) := by decide +kernel
theorem d_Lg_enders_1 : decode prog_2_method_13_code 1 = .ok (.istore_n 1, 1) := by decide +kernel
theorem d_Lg_enders_2 : decode prog_2_method_13_code 2 = .ok (.iconst 0, 1) := by decide +kernel
theorem d_Lg_enders_3 : decode prog_2_method_13_code 3 = .ok (.istore_n 2, 1) := by decide +kernel
theorem d_Lg_enders_4 : decode prog_2_method_13_code 4 = .ok (.iload_n 2, 1) := by decide +kernel
theorem d_Lg_enders_5 : decode prog_2_method_13_code 5 = .ok (.aload_n 0, 1) := by decide +kernel
theorem d_Lg_enders_6 : decode prog_2_method_13_code 6 = .ok (.getfield 21, 3) := by decide +kernel
theorem d_Lg_enders_9 : decode prog_2_method_13_code 9 = .ok (.if_icmp .ge 36, 3) := by decide +kernel
theorem d_Lg_enders_12 : decode prog_2_method_13_code 12 = .ok (.aload_n 0, 1) := by decide +kernel
theorem d_Lg_enders_13 : decode prog_2_method_13_code 13 = .ok (.getfield 9, 3) := by decide +kernel
theorem d_Lg_enders_16 : decode prog_2_method_13_code 16 = .ok (.iload_n 2, 1) := by decide +kernel
theorem d_Lg_enders_17 : decode prog_2_method_13_code 17 = .ok (.iaload, 1) := by decide +kernel
theorem d_Lg_enders_18 : decode prog_2_method_13_code 18 = .ok (.ifCond .le 21, 3) := by decide +kernel
theorem d_Lg_enders_21 : decode prog_2_method_13_code 21 = .ok (.iload_n 1, 1) := by decide +kernel
theorem d_Lg_enders_22 : decode prog_2_method_13_code 22 = .ok (.iconst 1, 1) := by decide +kernel
theorem d_Lg_enders_23 : decode prog_2_method_13_code 23 = .ok (.aload_n 0, 1) := by decide +kernel
theorem d_Lg_enders_24 : decode prog_2_method_13_code 24 = .ok (.iload_n 2, 1) := by decide +kernel
theorem d_Lg_enders_25 : decode prog_2_method_13_code 25 = .ok (.aload_n 0, 1) := by decide +kernel
theorem d_Lg_enders_26 : decode prog_2_method_13_code 26 = .ok (.getfield 9, 3) := by decide +kernel
theorem d_Lg_enders_29 : decode prog_2_method_13_code 29 = .ok (.iload_n 2, 1) := by decide +kernel
theorem d_Lg_enders_30 : decode prog_2_method_13_code 30 = .ok (.iaload, 1) := by decide +kernel
theorem d_Lg_enders_31 : decode prog_2_method_13_code 31 = .ok (.iconst 1, 1) := by decide +kernel
theorem d_Lg_enders_32 : decode prog_2_method_13_code 32 = .ok (.isub, 1) := by decide +kernel
theorem d_Lg_enders_33 : decode prog_2_method_13_code 33 = .ok (.invokevirtual 36, 3) := by decide +kernel
theorem d_Lg_enders_36 : decode prog_2_method_13_code 36 = .ok (.ishl, 1) := by decide +kernel
theorem d_Lg_enders_37 : decode prog_2_method_13_code 37 = .ok (.ior, 1) := by decide +kernel
theorem d_Lg_enders_38 : decode prog_2_method_13_code 38 = .ok (.istore_n 1, 1) := by decide +kernel
theorem d_Lg_enders_39 : decode prog_2_method_13_code 39 = .ok (.iinc 2 1, 3) := by decide +kernel
theorem d_Lg_enders_42 : decode prog_2_method_13_code 42 = .ok (.goto (-38), 3) := by decide +kernel
theorem d_Lg_enders_45 : decode prog_2_method_13_code 45 = .ok (.iload_n 1, 1) := by decide +kernel
theorem d_Lg_enders_46 : decode prog_2_method_13_code 46 = .ok (.ireturn, 1) := by decide +kernel
set_option maxRecDepth 20000 in
set_option maxHeartbeats 4000000 in
theorem cL_enders (E : fk_E) (a0 : Nat) (a1 : Nat) (a2 : Nat) (a3 : Nat) (tr : Nat) (len : Nat → Nat) (ev : Nat → Nat) (ht : tr ≤ 20) (hl : ∀ t, t < tr → len t ≤ 15) (he : ∀ t, t < tr → ∀ i, i < len t → ev (15 * t + i) < 7) : fk_C E fy_Lg_enders prog_2_method_13_code 3 (some .int) 1 0 0 [.ref a0] [(a0, .inr (1, [.ref a1, .ref a2, .ref a3, .int (nI tr)])), fk_ai E a1 20 len, fk_ai E a2 300 ev] (S := Unit) (fun _ => some (.int (nI (fs_set (fg_nd tr len ev) 7)))) (fun _ => True) (fun _ => [(a0, .inr (1, [.ref a1, .ref a2, .ref a3, .int (nI tr)])), fk_ai E a1 20 len, fk_ai E a2 300 ev]) := by
  refine fk_enterI (v := fun _ => (nI (fs_set (fg_nd tr len ev) 7))) (by decide) (Nat.le_of_ble_eq_true rfl) (lv0 := [(0, .ref a0)]) rfl ?_
  intro K hini hret
  refine fk_iconst (v := nI 0) d_Lg_enders_0 (by decide +kernel) ?_
  refine fk_istore_n (lv' := [(0, .ref a0), (1, .int (nI 0))]) d_Lg_enders_1 rfl (Nat.le_of_ble_eq_true rfl) [1, 0] rfl ?_
  refine fk_iconst (v := nI 0) d_Lg_enders_2 (by decide +kernel) ?_
  refine fk_istore_n (lv' := [(0, .ref a0), (1, .int (nI 0)), (2, .int (nI 0))]) d_Lg_enders_3 rfl (Nat.le_of_ble_eq_true rfl) [1, 2, 0] rfl ?_
  have L4 : ∀ (fuel : Nat) (s : Nat) (t : Nat), (t ≤ tr) → (s < 128) → (∀ a, s.testBit a = fg_nd t len ev a) → tr - t < fuel → fk_V E (prog_2_method_13_code, fy_Lg_enders.cls, 3, fk_rm 1 0 0) K (0, 0) [(a0, .inr (1, [.ref a1, .ref a2, .ref a3, .int (nI tr)])), fk_ai E a1 20 len, fk_ai E a2 300 ev] 4 [(0, .ref a0), (1, .int (nI s)), (2, .int (nI t))] [] := by
    intro fuel
    induction fuel with
    | zero => intro s t _ _ _ hm; exact absurd hm (Nat.not_lt_zero _)
    | succ fuel ih =>
      intro s t h1 h2 h3 hm4
      have ih4 := ih
      clear ih
      refine fk_iload_n 2 d_Lg_enders_4 rfl ?_
      refine fk_aload_n 0 d_Lg_enders_5 rfl ?_
      refine fk_get 0 3 rfl rfl fh_Lg (Nat.le_of_ble_eq_true rfl) fw_27 rfl d_Lg_enders_6 ?_
      refine fk_icmp_ge (a := t) (b := tr) (by omega) (by omega) d_Lg_enders_9 rfl (fun h9t => ?_) (fun h9f => ?_)
      · refine fk_iload_n 1 d_Lg_enders_45 rfl ?_
        refine fk_top (congrArg nI (show s = fs_set (fg_nd tr len ev) 7 from by rw [show tr = t by omega]; exact fs_set_of h2 h3)) ?_
        exact hret (0, 0) _ 46 _ () d_Lg_enders_46 (trivial) (rfl)
      · have h7 := hl t (by omega)
        refine fk_aload_n 0 d_Lg_enders_12 rfl ?_
        refine fk_get 0 0 rfl rfl fh_Lg (Nat.le_of_ble_eq_true rfl) fw_24 rfl d_Lg_enders_13 ?_
        refine fk_iload_n 2 d_Lg_enders_16 rfl ?_
        refine fk_ld_ai (i := t) 1 rfl (by omega) (by decide) d_Lg_enders_17 ?_
        refine fk_if_le (a := (len t)) (by omega) d_Lg_enders_18 rfl (fun h18t => ?_) (fun h18f => ?_)
        · refine fk_iinc (j := 2) (lv' := [(0, .ref a0), (1, .int (nI s)), (2, .int (nI (t + 1)))]) (t + 1) d_Lg_enders_39 rfl (nI_1 t) (Nat.le_of_ble_eq_true rfl) [1, 2, 0] rfl ?_
          refine fk_goto d_Lg_enders_42 rfl ?_
          refine ih4 _ _ ?_ ?_ ?_ ?_
          · first | omega | assumption | exact Nat.zero_le _
          · first | exact fb_or_lt h2 (fb_pow_lt h8) | assumption
          · intro a
            first | (rw [fb_or_bit, h3 a, fg_nd_s, decide_eq_true h18f, Bool.true_and]; done) | rw [h3 a, fg_nd_s, decide_eq_false (show ¬ 0 < len t by omega), Bool.false_and, Bool.or_false]
          · omega
        · have h8 := he t (by omega) (len t - 1) (by omega)
          refine fk_iload_n 1 d_Lg_enders_21 rfl ?_
          refine fk_iconst (v := nI 1) d_Lg_enders_22 (by decide +kernel) ?_
          refine fk_aload_n 0 d_Lg_enders_23 rfl ?_
          refine fk_iload_n 2 d_Lg_enders_24 rfl ?_
          refine fk_aload_n 0 d_Lg_enders_25 rfl ?_
          refine fk_get 0 0 rfl rfl fh_Lg (Nat.le_of_ble_eq_true rfl) fw_24 rfl d_Lg_enders_26 ?_
          refine fk_iload_n 2 d_Lg_enders_29 rfl ?_
          refine fk_ld_ai (i := t) 1 rfl (by omega) (by decide) d_Lg_enders_30 ?_
          refine fk_iconst (v := nI 1) d_Lg_enders_31 (by decide +kernel) ?_
          refine fk_isub (a := (len t)) (b := 1) d_Lg_enders_32 (by omega) ?_
          refine fk_callV (q0 := 0) (As := [.int (nI t), .int (nI ((len t) - 1))]) (rest := [.int (nI 1), .int (nI s)]) (is := [0, 2]) (ir := [1]) (ip := [1, 0, 2]) (wc := [(a0, .inr (1, [.ref a1, .ref a2, .ref a3, .int (nI tr)])), fk_ai E a2 300 ev]) (wr := [fk_ai E a1 20 len]) (w2 := fun _ => [(a0, .inr (1, [.ref a1, .ref a2, .ref a3, .int (nI tr)])), fk_ai E a1 20 len, fk_ai E a2 300 ev]) (cL_activityAt E a0 a1 a2 a3 tr ev t ((len t) - 1) (by first | omega | assumption)) d_Lg_enders_33 fz_Lg_activityAt fw_176 rfl rfl fw_177 fw_178 ⟨Nat.le_of_ble_eq_true rfl, Nat.le_of_ble_eq_true rfl⟩ rfl (Nat.le_of_ble_eq_true rfl) ⟨Nat.zero_le _, Nat.zero_le _⟩ ⟨rfl, rfl, rfl, rfl, by decide, fun _ => rfl, rfl⟩ (fun u hu33 => ?_)
          show fk_V E _ K (0, 0) [(a0, .inr (1, [.ref a1, .ref a2, .ref a3, .int (nI tr)])), fk_ai E a1 20 len, fk_ai E a2 300 ev] 36 [(0, .ref a0), (1, .int (nI s)), (2, .int (nI t))] [.int (nI (ev (15 * t + ((len t) - 1)))), .int (nI 1), .int (nI s)]
          refine fk_ishl (a := 1) (b := (ev (15 * t + ((len t) - 1)))) d_Lg_enders_36 (by omega) (by have := fb_pow_lt h8; omega) ?_
          refine fk_top (show nI (1 * 2 ^ (ev (15 * t + ((len t) - 1)))) = nI (2 ^ (ev (15 * t + ((len t) - 1)))) by rw [Nat.one_mul]) ?_
          refine fk_ior (a := s) (b := (2 ^ (ev (15 * t + ((len t) - 1))))) d_Lg_enders_37 ?_
          refine fk_istore_n (lv' := [(0, .ref a0), (1, .int (nI (s ||| (2 ^ (ev (15 * t + ((len t) - 1))))))), (2, .int (nI t))]) d_Lg_enders_38 rfl (Nat.le_of_ble_eq_true rfl) [1, 0, 2] rfl ?_
          refine fk_iinc (j := 2) (lv' := [(0, .ref a0), (1, .int (nI (s ||| (2 ^ (ev (15 * t + ((len t) - 1))))))), (2, .int (nI (t + 1)))]) (t + 1) d_Lg_enders_39 rfl (nI_1 t) (Nat.le_of_ble_eq_true rfl) [1, 2, 0] rfl ?_
          refine fk_goto d_Lg_enders_42 rfl ?_
          refine ih4 _ _ ?_ ?_ ?_ ?_
          · first | omega | assumption | exact Nat.zero_le _
          · first | exact fb_or_lt h2 (fb_pow_lt h8) | assumption
          · intro a
            first | (rw [fb_or_bit, h3 a, fg_nd_s, decide_eq_true h18f, Bool.true_and]; done) | rw [h3 a, fg_nd_s, decide_eq_false (show ¬ 0 < len t by omega), Bool.false_and, Bool.or_false]
          · omega
  refine L4 _ _ _ ?_ ?_ ?_ (Nat.lt_succ_self _)
  · first | omega | assumption | exact Nat.zero_le _
  · decide
  · exact fun a => Nat.zero_testBit a
