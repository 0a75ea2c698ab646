theorem d_Lg_init_0 : decode prog_2_method_1_code 0 = .ok (.aload_n 0, 1) := by decide +kernel
theorem d_Lg_init_1 : decode prog_2_method_1_code 1 = .ok (.invokespecial 3, 3) := by decide +kernel
theorem d_Lg_init_4 : decode prog_2_method_1_code 4 = .ok (.aload_n 0, 1) := by decide +kernel
theorem d_Lg_init_5 : decode prog_2_method_1_code 5 = .ok (.bipush 20, 2) := by decide +kernel
theorem d_Lg_init_7 : decode prog_2_method_1_code 7 = .ok (.newarray .int, 2) := by decide +kernel
theorem d_Lg_init_9 : decode prog_2_method_1_code 9 = .ok (.putfield 9, 3) := by decide +kernel
theorem d_Lg_init_12 : decode prog_2_method_1_code 12 = .ok (.aload_n 0, 1) := by decide +kernel
theorem d_Lg_init_13 : decode prog_2_method_1_code 13 = .ok (.sipush 300, 3) := by decide +kernel
theorem d_Lg_init_16 : decode prog_2_method_1_code 16 = .ok (.newarray .int, 2) := by decide +kernel
theorem d_Lg_init_18 : decode prog_2_method_1_code 18 = .ok (.putfield 15, 3) := by decide +kernel
theorem d_Lg_init_21 : decode prog_2_method_1_code 21 = .ok (.aload_n 0, 1) := by decide +kernel
theorem d_Lg_init_22 : decode prog_2_method_1_code 22 = .ok (.bipush 7, 2) := by decide +kernel
theorem d_Lg_init_24 : decode prog_2_method_1_code 24 = .ok (.newarray .int, 2) := by decide +kernel
theorem d_Lg_init_26 : decode prog_2_method_1_code 26 = .ok (.putfield 18, 3) := by decide +kernel
theorem d_Lg_init_29 : decode prog_2_method_1_code 29 = .ok (.aload_n 0, 1) := by decide +kernel
theorem d_Lg_init_30 : decode prog_2_method_1_code 30 = .ok (.iconst 0, 1) := by decide +kernel
theorem d_Lg_init_31 : decode prog_2_method_1_code 31 = .ok (.putfield 21, 3) := by decide +kernel
theorem d_Lg_init_34 : decode prog_2_method_1_code 34 = .ok (.return_, 1) := by decide +kernel
set_option maxRecDepth 20000 in
set_option maxHeartbeats 4000000 in
theorem cL_init (E : fk_E) (a0 : Nat)  : fk_C E fy_Lg_init prog_2_method_1_code 1 none 1 3 327 [.ref a0] [(a0, .inr (1, [.null, .null, .null, .int (nI 0)]))] (S := Nat × Nat × Nat) (fun (u : Nat × Nat × Nat) => none) (fun (u : Nat × Nat × Nat) => True) (fun (u : Nat × Nat × Nat) => [(a0, .inr (1, [.ref u.1, .ref u.2.1, .ref u.2.2, .int (nI 0)])), fk_ai E u.1 20 (fun _ => 0), fk_ai E u.2.1 300 (fun _ => 0), fk_ai E u.2.2 7 (fun _ => 0)]) := by
  refine fk_enterV (by decide) (Nat.le_of_ble_eq_true rfl) (lv0 := [(0, .ref a0)]) rfl ?_
  intro K hini hret
  refine fk_aload_n 0 d_Lg_init_0 rfl ?_
  refine fk_objInit d_Lg_init_1 fw_23 fw_16 fw_17 (Nat.le_of_ble_eq_true rfl) (Nat.le_of_ble_eq_true rfl) ?_
  refine fk_aload_n 0 d_Lg_init_4 rfl ?_
  refine fk_bipush (v := nI 20) d_Lg_init_5 (by decide +kernel) ?_
  refine fk_new_ai (N := 20) fw_37 (by decide) (by decide) (Nat.le_of_ble_eq_true rfl) (Nat.le_of_ble_eq_true rfl) d_Lg_init_7 (fun q7 => ?_)
  show fk_V E _ K (1, 20) [(a0, .inr (1, [.null, .null, .null, .int (nI 0)])), fk_ai E q7 20 (fun _ => 0)] 9 [(0, .ref a0)] [.ref q7, .ref a0]
  refine fk_putF (hini rfl) (w' := [(a0, .inr (1, [.ref q7, .null, .null, .int (nI 0)])), fk_ai E q7 20 (fun _ => 0)]) 0 0 fT_Lg fT_Lg_ok fT_Lg_nm rfl rfl fh_Lg (Nat.le_of_ble_eq_true rfl) fw_24 rfl rfl (fT_Lg_ok 0 (Nat.le_of_ble_eq_true rfl)) rfl rfl (Nat.le_of_ble_eq_true rfl) d_Lg_init_9 rfl ?_
  refine fk_aload_n 0 d_Lg_init_12 rfl ?_
  refine fk_sipush (v := nI 300) d_Lg_init_13 (by decide +kernel) ?_
  refine fk_new_ai (N := 300) fw_37 (by decide) (by decide) (Nat.le_of_ble_eq_true rfl) (Nat.le_of_ble_eq_true rfl) d_Lg_init_16 (fun q16 => ?_)
  show fk_V E _ K (2, 320) [(a0, .inr (1, [.ref q7, .null, .null, .int (nI 0)])), fk_ai E q7 20 (fun _ => 0), fk_ai E q16 300 (fun _ => 0)] 18 [(0, .ref a0)] [.ref q16, .ref a0]
  refine fk_putF (hini rfl) (w' := [(a0, .inr (1, [.ref q7, .ref q16, .null, .int (nI 0)])), fk_ai E q7 20 (fun _ => 0), fk_ai E q16 300 (fun _ => 0)]) 0 1 fT_Lg fT_Lg_ok fT_Lg_nm rfl rfl fh_Lg (Nat.le_of_ble_eq_true rfl) fw_25 rfl rfl (fT_Lg_ok 1 (Nat.le_of_ble_eq_true rfl)) rfl rfl (Nat.le_of_ble_eq_true rfl) d_Lg_init_18 rfl ?_
  refine fk_aload_n 0 d_Lg_init_21 rfl ?_
  refine fk_bipush (v := nI 7) d_Lg_init_22 (by decide +kernel) ?_
  refine fk_new_ai (N := 7) fw_37 (by decide) (by decide) (Nat.le_of_ble_eq_true rfl) (Nat.le_of_ble_eq_true rfl) d_Lg_init_24 (fun q24 => ?_)
  show fk_V E _ K (3, 327) [(a0, .inr (1, [.ref q7, .ref q16, .null, .int (nI 0)])), fk_ai E q7 20 (fun _ => 0), fk_ai E q16 300 (fun _ => 0), fk_ai E q24 7 (fun _ => 0)] 26 [(0, .ref a0)] [.ref q24, .ref a0]
  refine fk_putF (hini rfl) (w' := [(a0, .inr (1, [.ref q7, .ref q16, .ref q24, .int (nI 0)])), fk_ai E q7 20 (fun _ => 0), fk_ai E q16 300 (fun _ => 0), fk_ai E q24 7 (fun _ => 0)]) 0 2 fT_Lg fT_Lg_ok fT_Lg_nm rfl rfl fh_Lg (Nat.le_of_ble_eq_true rfl) fw_26 rfl rfl (fT_Lg_ok 2 (Nat.le_of_ble_eq_true rfl)) rfl rfl (Nat.le_of_ble_eq_true rfl) d_Lg_init_26 rfl ?_
  refine fk_aload_n 0 d_Lg_init_29 rfl ?_
  refine fk_iconst (v := nI 0) d_Lg_init_30 (by decide +kernel) ?_
  refine fk_put (w' := [(a0, .inr (1, [.ref q7, .ref q16, .ref q24, .int (nI 0)])), fk_ai E q7 20 (fun _ => 0), fk_ai E q16 300 (fun _ => 0), fk_ai E q24 7 (fun _ => 0)]) 0 3 fT_Lg fT_Lg_ok fT_Lg_nm rfl rfl fh_Lg (Nat.le_of_ble_eq_true rfl) fw_27 rfl (fT_Lg_ok 3 (Nat.le_of_ble_eq_true rfl)) rfl rfl (Nat.le_of_ble_eq_true rfl) d_Lg_init_31 rfl ?_
  exact hret (3, 327) _ 34 _ (q7, q16, q24) d_Lg_init_34 (trivial) (rfl)
theorem d_Nt_init_0 : decode prog_4_method_1_code 0 = .ok (.aload_n 0, 1) := by decide +kernel
theorem d_Nt_init_1 : decode prog_4_method_1_code 1 = .ok (.invokespecial 3, 3) := by decide +kernel
theorem d_Nt_init_4 : decode prog_4_method_1_code 4 = .ok (.aload_n 0, 1) := by decide +kernel
theorem d_Nt_init_5 : decode prog_4_method_1_code 5 = .ok (.bipush 14, 2) := by decide +kernel
theorem d_Nt_init_7 : decode prog_4_method_1_code 7 = .ok (.newarray .int, 2) := by decide +kernel
theorem d_Nt_init_9 : decode prog_4_method_1_code 9 = .ok (.putfield 9, 3) := by decide +kernel
theorem d_Nt_init_12 : decode prog_4_method_1_code 12 = .ok (.aload_n 0, 1) := by decide +kernel
theorem d_Nt_init_13 : decode prog_4_method_1_code 13 = .ok (.bipush 14, 2) := by decide +kernel
theorem d_Nt_init_15 : decode prog_4_method_1_code 15 = .ok (.newarray .int, 2) := by decide +kernel
theorem d_Nt_init_17 : decode prog_4_method_1_code 17 = .ok (.putfield 15, 3) := by decide +kernel
theorem d_Nt_init_20 : decode prog_4_method_1_code 20 = .ok (.aload_n 0, 1) := by decide +kernel
theorem d_Nt_init_21 : decode prog_4_method_1_code 21 = .ok (.bipush 7, 2) := by decide +kernel
theorem d_Nt_init_23 : decode prog_4_method_1_code 23 = .ok (.newarray .long, 2) := by decide +kernel
theorem d_Nt_init_25 : decode prog_4_method_1_code 25 = .ok (.putfield 18, 3) := by decide +kernel
theorem d_Nt_init_28 : decode prog_4_method_1_code 28 = .ok (.aload_n 0, 1) := by decide +kernel
theorem d_Nt_init_29 : decode prog_4_method_1_code 29 = .ok (.bipush 7, 2) := by decide +kernel
theorem d_Nt_init_31 : decode prog_4_method_1_code 31 = .ok (.newarray .long, 2) := by decide +kernel
theorem d_Nt_init_33 : decode prog_4_method_1_code 33 = .ok (.putfield 22, 3) := by decide +kernel
theorem d_Nt_init_36 : decode prog_4_method_1_code 36 = .ok (.aload_n 0, 1) := by decide +kernel
theorem d_Nt_init_37 : decode prog_4_method_1_code 37 = .ok (.iconst 0, 1) := by decide +kernel
theorem d_Nt_init_38 : decode prog_4_method_1_code 38 = .ok (.putfield 25, 3) := by decide +kernel
theorem d_Nt_init_41 : decode prog_4_method_1_code 41 = .ok (.aload_n 0, 1) := by decide +kernel
theorem d_Nt_init_42 : decode prog_4_method_1_code 42 = .ok (.iconst 0, 1) := by decide +kernel
theorem d_Nt_init_43 : decode prog_4_method_1_code 43 = .ok (.putfield 29, 3) := by decide +kernel
theorem d_Nt_init_46 : decode prog_4_method_1_code 46 = .ok (.aload_n 0, 1) := by decide +kernel
theorem d_Nt_init_47 : decode prog_4_method_1_code 47 = .ok (.iconst 0, 1) := by decide +kernel
theorem d_Nt_init_48 : decode prog_4_method_1_code 48 = .ok (.putfield 32, 3) := by decide +kernel
theorem d_Nt_init_51 : decode prog_4_method_1_code 51 = .ok (.aload_n 0, 1) := by decide +kernel
theorem d_Nt_init_52 : decode prog_4_method_1_code 52 = .ok (.iconst 0, 1) := by decide +kernel
theorem d_Nt_init_53 : decode prog_4_method_1_code 53 = .ok (.putfield 35, 3) := by decide +kernel
theorem d_Nt_init_56 : decode prog_4_method_1_code 56 = .ok (.aload_n 0, 1) := by decide +kernel
theorem d_Nt_init_57 : decode prog_4_method_1_code 57 = .ok (.iconst 0, 1) := by decide +kernel
theorem d_Nt_init_58 : decode prog_4_method_1_code 58 = .ok (.putfield 38, 3) := by decide +kernel
theorem d_Nt_init_61 : decode prog_4_method_1_code 61 = .ok (.return_, 1) := by decide +kernel
set_option maxRecDepth 20000 in
set_option maxHeartbeats 4000000 in
theorem cN_init (E : fk_E) (n0 : Nat)  : fk_C E fy_Nt_init prog_4_method_1_code 1 none 1 4 42 [.ref n0] [(n0, .inr (2, [.null, .null, .null, .null, .int (nI 0), .int (nI 0), .int (nI 0), .int (nI 0), .int (nI 0)]))] (S := Nat × Nat × Nat × Nat) (fun (u : Nat × Nat × Nat × Nat) => none) (fun (u : Nat × Nat × Nat × Nat) => True) (fun (u : Nat × Nat × Nat × Nat) => [(n0, .inr (2, [.ref u.1, .ref u.2.1, .ref u.2.2.1, .ref u.2.2.2, .int (nI 0), .int (nI 0), .int (nI 0), .int (nI 0), .int (nI 0)])), fk_ai E u.1 14 (fun _ => 0), fk_ai E u.2.1 14 (fun _ => 0), fk_al E u.2.2.1 7 (fun _ => 0), fk_al E u.2.2.2 7 (fun _ => 0)]) := by
  refine fk_enterV (by decide) (Nat.le_of_ble_eq_true rfl) (lv0 := [(0, .ref n0)]) rfl ?_
  intro K hini hret
  refine fk_aload_n 0 d_Nt_init_0 rfl ?_
  refine fk_objInit d_Nt_init_1 fw_43 fw_16 fw_17 (Nat.le_of_ble_eq_true rfl) (Nat.le_of_ble_eq_true rfl) ?_
  refine fk_aload_n 0 d_Nt_init_4 rfl ?_
  refine fk_bipush (v := nI 14) d_Nt_init_5 (by decide +kernel) ?_
  refine fk_new_ai (N := 14) fw_37 (by decide) (by decide) (Nat.le_of_ble_eq_true rfl) (Nat.le_of_ble_eq_true rfl) d_Nt_init_7 (fun q7 => ?_)
  show fk_V E _ K (1, 14) [(n0, .inr (2, [.null, .null, .null, .null, .int (nI 0), .int (nI 0), .int (nI 0), .int (nI 0), .int (nI 0)])), fk_ai E q7 14 (fun _ => 0)] 9 [(0, .ref n0)] [.ref q7, .ref n0]
  refine fk_putF (hini rfl) (w' := [(n0, .inr (2, [.ref q7, .null, .null, .null, .int (nI 0), .int (nI 0), .int (nI 0), .int (nI 0), .int (nI 0)])), fk_ai E q7 14 (fun _ => 0)]) 0 0 fT_Nt fT_Nt_ok fT_Nt_nm rfl rfl fh_Nt (Nat.le_of_ble_eq_true rfl) fw_44 rfl rfl (fT_Nt_ok 0 (Nat.le_of_ble_eq_true rfl)) rfl rfl (Nat.le_of_ble_eq_true rfl) d_Nt_init_9 rfl ?_
  refine fk_aload_n 0 d_Nt_init_12 rfl ?_
  refine fk_bipush (v := nI 14) d_Nt_init_13 (by decide +kernel) ?_
  refine fk_new_ai (N := 14) fw_37 (by decide) (by decide) (Nat.le_of_ble_eq_true rfl) (Nat.le_of_ble_eq_true rfl) d_Nt_init_15 (fun q15 => ?_)
  show fk_V E _ K (2, 28) [(n0, .inr (2, [.ref q7, .null, .null, .null, .int (nI 0), .int (nI 0), .int (nI 0), .int (nI 0), .int (nI 0)])), fk_ai E q7 14 (fun _ => 0), fk_ai E q15 14 (fun _ => 0)] 17 [(0, .ref n0)] [.ref q15, .ref n0]
  refine fk_putF (hini rfl) (w' := [(n0, .inr (2, [.ref q7, .ref q15, .null, .null, .int (nI 0), .int (nI 0), .int (nI 0), .int (nI 0), .int (nI 0)])), fk_ai E q7 14 (fun _ => 0), fk_ai E q15 14 (fun _ => 0)]) 0 1 fT_Nt fT_Nt_ok fT_Nt_nm rfl rfl fh_Nt (Nat.le_of_ble_eq_true rfl) fw_45 rfl rfl (fT_Nt_ok 1 (Nat.le_of_ble_eq_true rfl)) rfl rfl (Nat.le_of_ble_eq_true rfl) d_Nt_init_17 rfl ?_
  refine fk_aload_n 0 d_Nt_init_20 rfl ?_
  refine fk_bipush (v := nI 7) d_Nt_init_21 (by decide +kernel) ?_
  refine fk_new_al (N := 7) fw_72 (by decide) (by decide) (Nat.le_of_ble_eq_true rfl) (Nat.le_of_ble_eq_true rfl) d_Nt_init_23 (fun q23 => ?_)
  show fk_V E _ K (3, 35) [(n0, .inr (2, [.ref q7, .ref q15, .null, .null, .int (nI 0), .int (nI 0), .int (nI 0), .int (nI 0), .int (nI 0)])), fk_ai E q7 14 (fun _ => 0), fk_ai E q15 14 (fun _ => 0), fk_al E q23 7 (fun _ => 0)] 25 [(0, .ref n0)] [.ref q23, .ref n0]
  refine fk_putF (hini rfl) (w' := [(n0, .inr (2, [.ref q7, .ref q15, .ref q23, .null, .int (nI 0), .int (nI 0), .int (nI 0), .int (nI 0), .int (nI 0)])), fk_ai E q7 14 (fun _ => 0), fk_ai E q15 14 (fun _ => 0), fk_al E q23 7 (fun _ => 0)]) 0 2 fT_Nt fT_Nt_ok fT_Nt_nm rfl rfl fh_Nt (Nat.le_of_ble_eq_true rfl) fw_46 rfl rfl (fT_Nt_ok 2 (Nat.le_of_ble_eq_true rfl)) rfl rfl (Nat.le_of_ble_eq_true rfl) d_Nt_init_25 rfl ?_
  refine fk_aload_n 0 d_Nt_init_28 rfl ?_
  refine fk_bipush (v := nI 7) d_Nt_init_29 (by decide +kernel) ?_
  refine fk_new_al (N := 7) fw_72 (by decide) (by decide) (Nat.le_of_ble_eq_true rfl) (Nat.le_of_ble_eq_true rfl) d_Nt_init_31 (fun q31 => ?_)
  show fk_V E _ K (4, 42) [(n0, .inr (2, [.ref q7, .ref q15, .ref q23, .null, .int (nI 0), .int (nI 0), .int (nI 0), .int (nI 0), .int (nI 0)])), fk_ai E q7 14 (fun _ => 0), fk_ai E q15 14 (fun _ => 0), fk_al E q23 7 (fun _ => 0), fk_al E q31 7 (fun _ => 0)] 33 [(0, .ref n0)] [.ref q31, .ref n0]
  refine fk_putF (hini rfl) (w' := [(n0, .inr (2, [.ref q7, .ref q15, .ref q23, .ref q31, .int (nI 0), .int (nI 0), .int (nI 0), .int (nI 0), .int (nI 0)])), fk_ai E q7 14 (fun _ => 0), fk_ai E q15 14 (fun _ => 0), fk_al E q23 7 (fun _ => 0), fk_al E q31 7 (fun _ => 0)]) 0 3 fT_Nt fT_Nt_ok fT_Nt_nm rfl rfl fh_Nt (Nat.le_of_ble_eq_true rfl) fw_47 rfl rfl (fT_Nt_ok 3 (Nat.le_of_ble_eq_true rfl)) rfl rfl (Nat.le_of_ble_eq_true rfl) d_Nt_init_33 rfl ?_
  refine fk_aload_n 0 d_Nt_init_36 rfl ?_
  refine fk_iconst (v := nI 0) d_Nt_init_37 (by decide +kernel) ?_
  refine fk_put (w' := [(n0, .inr (2, [.ref q7, .ref q15, .ref q23, .ref q31, .int (nI 0), .int (nI 0), .int (nI 0), .int (nI 0), .int (nI 0)])), fk_ai E q7 14 (fun _ => 0), fk_ai E q15 14 (fun _ => 0), fk_al E q23 7 (fun _ => 0), fk_al E q31 7 (fun _ => 0)]) 0 4 fT_Nt fT_Nt_ok fT_Nt_nm rfl rfl fh_Nt (Nat.le_of_ble_eq_true rfl) fw_48 rfl (fT_Nt_ok 4 (Nat.le_of_ble_eq_true rfl)) rfl rfl (Nat.le_of_ble_eq_true rfl) d_Nt_init_38 rfl ?_
  refine fk_aload_n 0 d_Nt_init_41 rfl ?_
  refine fk_iconst (v := nI 0) d_Nt_init_42 (by decide +kernel) ?_
  refine fk_put (w' := [(n0, .inr (2, [.ref q7, .ref q15, .ref q23, .ref q31, .int (nI 0), .int (nI 0), .int (nI 0), .int (nI 0), .int (nI 0)])), fk_ai E q7 14 (fun _ => 0), fk_ai E q15 14 (fun _ => 0), fk_al E q23 7 (fun _ => 0), fk_al E q31 7 (fun _ => 0)]) 0 5 fT_Nt fT_Nt_ok fT_Nt_nm rfl rfl fh_Nt (Nat.le_of_ble_eq_true rfl) fw_49 rfl (fT_Nt_ok 5 (Nat.le_of_ble_eq_true rfl)) rfl rfl (Nat.le_of_ble_eq_true rfl) d_Nt_init_43 rfl ?_
  refine fk_aload_n 0 d_Nt_init_46 rfl ?_
  refine fk_iconst (v := nI 0) d_Nt_init_47 (by decide +kernel) ?_
  refine fk_put (w' := [(n0, .inr (2, [.ref q7, .ref q15, .ref q23, .ref q31, .int (nI 0), .int (nI 0), .int (nI 0), .int (nI 0), .int (nI 0)])), fk_ai E q7 14 (fun _ => 0), fk_ai E q15 14 (fun _ => 0), fk_al E q23 7 (fun _ => 0), fk_al E q31 7 (fun _ => 0)]) 0 6 fT_Nt fT_Nt_ok fT_Nt_nm rfl rfl fh_Nt (Nat.le_of_ble_eq_true rfl) fw_50 rfl (fT_Nt_ok 6 (Nat.le_of_ble_eq_true rfl)) rfl rfl (Nat.le_of_ble_eq_true rfl) d_Nt_init_48 rfl ?_
  refine fk_aload_n 0 d_Nt_init_51 rfl ?_
  refine fk_iconst (v := nI 0) d_Nt_init_52 (by decide +kernel) ?_
  refine fk_put (w' := [(n0, .inr (2, [.ref q7, .ref q15, .ref q23, .ref q31, .int (nI 0), .int (nI 0), .int (nI 0), .int (nI 0), .int (nI 0)])), fk_ai E q7 14 (fun _ => 0), fk_ai E q15 14 (fun _ => 0), fk_al E q23 7 (fun _ => 0), fk_al E q31 7 (fun _ => 0)]) 0 7 fT_Nt fT_Nt_ok fT_Nt_nm rfl rfl fh_Nt (Nat.le_of_ble_eq_true rfl) fw_51 rfl (fT_Nt_ok 7 (Nat.le_of_ble_eq_true rfl)) rfl rfl (Nat.le_of_ble_eq_true rfl) d_Nt_init_53 rfl ?_
  refine fk_aload_n 0 d_Nt_init_56 rfl ?_
  refine fk_iconst (v := nI 0) d_Nt_init_57 (by decide +kernel) ?_
  refine fk_put (w' := [(n0, .inr (2, [.ref q7, .ref q15, .ref q23, .ref q31, .int (nI 0), .int (nI 0), .int (nI 0), .int (nI 0), .int (nI 0)])), fk_ai E q7 14 (fun _ => 0), fk_ai E q15 14 (fun _ => 0), fk_al E q23 7 (fun _ => 0), fk_al E q31 7 (fun _ => 0)]) 0 8 fT_Nt fT_Nt_ok fT_Nt_nm rfl rfl fh_Nt (Nat.le_of_ble_eq_true rfl) fw_52 rfl (fT_Nt_ok 8 (Nat.le_of_ble_eq_true rfl)) rfl rfl (Nat.le_of_ble_eq_true rfl) d_Nt_init_58 rfl ?_
  exact hret (4, 42) _ 61 _ (q7, q15, q23, q31) d_Nt_init_61 (trivial) (rfl)
theorem d_Mi_init_0 : decode prog_3_method_1_code 0 = .ok (.aload_n 0, 1) := by decide +kernel
theorem d_Mi_init_1 : decode prog_3_method_1_code 1 = .ok (.invokespecial 3, 3) := by decide +kernel
theorem d_Mi_init_4 : decode prog_3_method_1_code 4 = .ok (.aload_n 0, 1) := by decide +kernel
theorem d_Mi_init_5 : decode prog_3_method_1_code 5 = .ok (.sipush 128, 3) := by decide +kernel
theorem d_Mi_init_8 : decode prog_3_method_1_code 8 = .ok (.newarray .int, 2) := by decide +kernel
theorem d_Mi_init_10 : decode prog_3_method_1_code 10 = .ok (.putfield 9, 3) := by decide +kernel
theorem d_Mi_init_13 : decode prog_3_method_1_code 13 = .ok (.aload_n 0, 1) := by decide +kernel
theorem d_Mi_init_14 : decode prog_3_method_1_code 14 = .ok (.sipush 128, 3) := by decide +kernel
theorem d_Mi_init_17 : decode prog_3_method_1_code 17 = .ok (.newarray .boolean, 2) := by decide +kernel
theorem d_Mi_init_19 : decode prog_3_method_1_code 19 = .ok (.putfield 15, 3) := by decide +kernel
theorem d_Mi_init_22 : decode prog_3_method_1_code 22 = .ok (.aload_n 0, 1) := by decide +kernel
theorem d_Mi_init_23 : decode prog_3_method_1_code 23 = .ok (.bipush 14, 2) := by decide +kernel
theorem d_Mi_init_25 : decode prog_3_method_1_code 25 = .ok (.newarray .int, 2) := by decide +kernel
theorem d_Mi_init_27 : decode prog_3_method_1_code 27 = .ok (.putfield 19, 3) := by decide +kernel
theorem d_Mi_init_30 : decode prog_3_method_1_code 30 = .ok (.aload_n 0, 1) := by decide +kernel
theorem d_Mi_init_31 : decode prog_3_method_1_code 31 = .ok (.bipush 14, 2) := by decide +kernel
theorem d_Mi_init_33 : decode prog_3_method_1_code 33 = .ok (.newarray .int, 2) := by decide +kernel
theorem d_Mi_init_35 : decode prog_3_method_1_code 35 = .ok (.putfield 22, 3) := by decide +kernel
theorem d_Mi_init_38 : decode prog_3_method_1_code 38 = .ok (.aload_n 0, 1) := by decide +kernel
theorem d_Mi_init_39 : decode prog_3_method_1_code 39 = .ok (.iconst 0, 1) := by decide +kernel
theorem d_Mi_init_40 : decode prog_3_method_1_code 40 = .ok (.putfield 25, 3) := by decide +kernel
theorem d_Mi_init_43 : decode prog_3_method_1_code 43 = .ok (.return_, 1) := by decide +kernel
set_option maxRecDepth 20000 in
set_option maxHeartbeats 4000000 in
theorem cM_init (E : fk_E) (i0 : Nat)  : fk_C E fy_Mi_init prog_3_method_1_code 1 none 1 4 284 [.ref i0] [(i0, .inr (3, [.null, .null, .null, .null, .int (nI 0)]))] (S := Nat × Nat × Nat × Nat) (fun (u : Nat × Nat × Nat × Nat) => none) (fun (u : Nat × Nat × Nat × Nat) => True) (fun (u : Nat × Nat × Nat × Nat) => [(i0, .inr (3, [.ref u.1, .ref u.2.1, .ref u.2.2.1, .ref u.2.2.2, .int (nI 0)])), fk_ai E u.1 128 (fun _ => 0), fk_az E u.2.1 128 (fun _ => false), fk_ai E u.2.2.1 14 (fun _ => 0), fk_ai E u.2.2.2 14 (fun _ => 0)]) := by
  refine fk_enterV (by decide) (Nat.le_of_ble_eq_true rfl) (lv0 := [(0, .ref i0)]) rfl ?_
  intro K hini hret
  refine fk_aload_n 0 d_Mi_init_0 rfl ?_
  refine fk_objInit d_Mi_init_1 fw_78 fw_16 fw_17 (Nat.le_of_ble_eq_true rfl) (Nat.le_of_ble_eq_true rfl) ?_
  refine fk_aload_n 0 d_Mi_init_4 rfl ?_
  refine fk_sipush (v := nI 128) d_Mi_init_5 (by decide +kernel) ?_
  refine fk_new_ai (N := 128) fw_37 (by decide) (by decide) (Nat.le_of_ble_eq_true rfl) (Nat.le_of_ble_eq_true rfl) d_Mi_init_8 (fun q8 => ?_)
  show fk_V E _ K (1, 128) [(i0, .inr (3, [.null, .null, .null, .null, .int (nI 0)])), fk_ai E q8 128 (fun _ => 0)] 10 [(0, .ref i0)] [.ref q8, .ref i0]
  refine fk_putF (hini rfl) (w' := [(i0, .inr (3, [.ref q8, .null, .null, .null, .int (nI 0)])), fk_ai E q8 128 (fun _ => 0)]) 0 0 fT_Mi fT_Mi_ok fT_Mi_nm rfl rfl fh_Mi (Nat.le_of_ble_eq_true rfl) fw_79 rfl rfl (fT_Mi_ok 0 (Nat.le_of_ble_eq_true rfl)) rfl rfl (Nat.le_of_ble_eq_true rfl) d_Mi_init_10 rfl ?_
  refine fk_aload_n 0 d_Mi_init_13 rfl ?_
  refine fk_sipush (v := nI 128) d_Mi_init_14 (by decide +kernel) ?_
  refine fk_new_az (N := 128) fw_95 (by decide) (by decide) (Nat.le_of_ble_eq_true rfl) (Nat.le_of_ble_eq_true rfl) d_Mi_init_17 (fun q17 => ?_)
  show fk_V E _ K (2, 256) [(i0, .inr (3, [.ref q8, .null, .null, .null, .int (nI 0)])), fk_ai E q8 128 (fun _ => 0), fk_az E q17 128 (fun _ => false)] 19 [(0, .ref i0)] [.ref q17, .ref i0]
  refine fk_putF (hini rfl) (w' := [(i0, .inr (3, [.ref q8, .ref q17, .null, .null, .int (nI 0)])), fk_ai E q8 128 (fun _ => 0), fk_az E q17 128 (fun _ => false)]) 0 1 fT_Mi fT_Mi_ok fT_Mi_nm rfl rfl fh_Mi (Nat.le_of_ble_eq_true rfl) fw_80 rfl rfl (fT_Mi_ok 1 (Nat.le_of_ble_eq_true rfl)) rfl rfl (Nat.le_of_ble_eq_true rfl) d_Mi_init_19 rfl ?_
  refine fk_aload_n 0 d_Mi_init_22 rfl ?_
  refine fk_bipush (v := nI 14) d_Mi_init_23 (by decide +kernel) ?_
  refine fk_new_ai (N := 14) fw_37 (by decide) (by decide) (Nat.le_of_ble_eq_true rfl) (Nat.le_of_ble_eq_true rfl) d_Mi_init_25 (fun q25 => ?_)
  show fk_V E _ K (3, 270) [(i0, .inr (3, [.ref q8, .ref q17, .null, .null, .int (nI 0)])), fk_ai E q8 128 (fun _ => 0), fk_az E q17 128 (fun _ => false), fk_ai E q25 14 (fun _ => 0)] 27 [(0, .ref i0)] [.ref q25, .ref i0]
  refine fk_putF (hini rfl) (w' := [(i0, .inr (3, [.ref q8, .ref q17, .ref q25, .null, .int (nI 0)])), fk_ai E q8 128 (fun _ => 0), fk_az E q17 128 (fun _ => false), fk_ai E q25 14 (fun _ => 0)]) 0 2 fT_Mi fT_Mi_ok fT_Mi_nm rfl rfl fh_Mi (Nat.le_of_ble_eq_true rfl) fw_81 rfl rfl (fT_Mi_ok 2 (Nat.le_of_ble_eq_true rfl)) rfl rfl (Nat.le_of_ble_eq_true rfl) d_Mi_init_27 rfl ?_
  refine fk_aload_n 0 d_Mi_init_30 rfl ?_
  refine fk_bipush (v := nI 14) d_Mi_init_31 (by decide +kernel) ?_
  refine fk_new_ai (N := 14) fw_37 (by decide) (by decide) (Nat.le_of_ble_eq_true rfl) (Nat.le_of_ble_eq_true rfl) d_Mi_init_33 (fun q33 => ?_)
  show fk_V E _ K (4, 284) [(i0, .inr (3, [.ref q8, .ref q17, .ref q25, .null, .int (nI 0)])), fk_ai E q8 128 (fun _ => 0), fk_az E q17 128 (fun _ => false), fk_ai E q25 14 (fun _ => 0), fk_ai E q33 14 (fun _ => 0)] 35 [(0, .ref i0)] [.ref q33, .ref i0]
  refine fk_putF (hini rfl) (w' := [(i0, .inr (3, [.ref q8, .ref q17, .ref q25, .ref q33, .int (nI 0)])), fk_ai E q8 128 (fun _ => 0), fk_az E q17 128 (fun _ => false), fk_ai E q25 14 (fun _ => 0), fk_ai E q33 14 (fun _ => 0)]) 0 3 fT_Mi fT_Mi_ok fT_Mi_nm rfl rfl fh_Mi (Nat.le_of_ble_eq_true rfl) fw_82 rfl rfl (fT_Mi_ok 3 (Nat.le_of_ble_eq_true rfl)) rfl rfl (Nat.le_of_ble_eq_true rfl) d_Mi_init_35 rfl ?_
  refine fk_aload_n 0 d_Mi_init_38 rfl ?_
  refine fk_iconst (v := nI 0) d_Mi_init_39 (by decide +kernel) ?_
  refine fk_put (w' := [(i0, .inr (3, [.ref q8, .ref q17, .ref q25, .ref q33, .int (nI 0)])), fk_ai E q8 128 (fun _ => 0), fk_az E q17 128 (fun _ => false), fk_ai E q25 14 (fun _ => 0), fk_ai E q33 14 (fun _ => 0)]) 0 4 fT_Mi fT_Mi_ok fT_Mi_nm rfl rfl fh_Mi (Nat.le_of_ble_eq_true rfl) fw_83 rfl (fT_Mi_ok 4 (Nat.le_of_ble_eq_true rfl)) rfl rfl (Nat.le_of_ble_eq_true rfl) d_Mi_init_40 rfl ?_
  exact hret (4, 284) _ 43 _ (q8, q17, q25, q33) d_Mi_init_43 (trivial) (rfl)
theorem d_Re_init_0 : decode prog_6_method_1_code 0 = .ok (.aload_n 0, 1) := by decide +kernel
theorem d_Re_init_1 : decode prog_6_method_1_code 1 = .ok (.invokespecial 3, 3) := by decide +kernel
theorem d_Re_init_4 : decode prog_6_method_1_code 4 = .ok (.aload_n 0, 1) := by decide +kernel
theorem d_Re_init_5 : decode prog_6_method_1_code 5 = .ok (.sipush 200, 3) := by decide +kernel
theorem d_Re_init_8 : decode prog_6_method_1_code 8 = .ok (.newarray .long, 2) := by decide +kernel
theorem d_Re_init_10 : decode prog_6_method_1_code 10 = .ok (.putfield 9, 3) := by decide +kernel
theorem d_Re_init_13 : decode prog_6_method_1_code 13 = .ok (.aload_n 0, 1) := by decide +kernel
theorem d_Re_init_14 : decode prog_6_method_1_code 14 = .ok (.sipush 512, 3) := by decide +kernel
theorem d_Re_init_17 : decode prog_6_method_1_code 17 = .ok (.newarray .int, 2) := by decide +kernel
theorem d_Re_init_19 : decode prog_6_method_1_code 19 = .ok (.putfield 15, 3) := by decide +kernel
theorem d_Re_init_22 : decode prog_6_method_1_code 22 = .ok (.aload_n 0, 1) := by decide +kernel
theorem d_Re_init_23 : decode prog_6_method_1_code 23 = .ok (.sipush 1400, 3) := by decide +kernel
theorem d_Re_init_26 : decode prog_6_method_1_code 26 = .ok (.newarray .int, 2) := by decide +kernel
theorem d_Re_init_28 : decode prog_6_method_1_code 28 = .ok (.putfield 19, 3) := by decide +kernel
theorem d_Re_init_31 : decode prog_6_method_1_code 31 = .ok (.aload_n 0, 1) := by decide +kernel
theorem d_Re_init_32 : decode prog_6_method_1_code 32 = .ok (.sipush 200, 3) := by decide +kernel
theorem d_Re_init_35 : decode prog_6_method_1_code 35 = .ok (.newarray .boolean, 2) := by decide +kernel
theorem d_Re_init_37 : decode prog_6_method_1_code 37 = .ok (.putfield 22, 3) := by decide +kernel
theorem d_Re_init_40 : decode prog_6_method_1_code 40 = .ok (.aload_n 0, 1) := by decide +kernel
theorem d_Re_init_41 : decode prog_6_method_1_code 41 = .ok (.iconst 0, 1) := by decide +kernel
theorem d_Re_init_42 : decode prog_6_method_1_code 42 = .ok (.putfield 26, 3) := by decide +kernel
theorem d_Re_init_45 : decode prog_6_method_1_code 45 = .ok (.aload_n 0, 1) := by decide +kernel
theorem d_Re_init_46 : decode prog_6_method_1_code 46 = .ok (.iconst 0, 1) := by decide +kernel
theorem d_Re_init_47 : decode prog_6_method_1_code 47 = .ok (.putfield 30, 3) := by decide +kernel
theorem d_Re_init_50 : decode prog_6_method_1_code 50 = .ok (.return_, 1) := by decide +kernel
set_option maxRecDepth 20000 in
set_option maxHeartbeats 4000000 in
theorem cR_init (E : fk_E) (r0 : Nat)  : fk_C E fy_Re_init prog_6_method_1_code 1 none 1 4 2312 [.ref r0] [(r0, .inr (4, [.null, .null, .null, .null, .int (nI 0), .int (nI 0)]))] (S := Nat × Nat × Nat × Nat) (fun (u : Nat × Nat × Nat × Nat) => none) (fun (u : Nat × Nat × Nat × Nat) => True) (fun (u : Nat × Nat × Nat × Nat) => [(r0, .inr (4, [.ref u.1, .ref u.2.1, .ref u.2.2.1, .ref u.2.2.2, .int (nI 0), .int (nI 0)])), fk_al E u.1 200 (fun _ => 0), fk_aj E u.2.1 512 (fun _ => 1), fk_aj E u.2.2.1 1400 (fun _ => 1), fk_az E u.2.2.2 200 (fun _ => false)]) := by
  refine fk_enterV (by decide) (Nat.le_of_ble_eq_true rfl) (lv0 := [(0, .ref r0)]) rfl ?_
  intro K hini hret
  refine fk_aload_n 0 d_Re_init_0 rfl ?_
  refine fk_objInit d_Re_init_1 fw_101 fw_16 fw_17 (Nat.le_of_ble_eq_true rfl) (Nat.le_of_ble_eq_true rfl) ?_
  refine fk_aload_n 0 d_Re_init_4 rfl ?_
  refine fk_sipush (v := nI 200) d_Re_init_5 (by decide +kernel) ?_
  refine fk_new_al (N := 200) fw_72 (by decide) (by decide) (Nat.le_of_ble_eq_true rfl) (Nat.le_of_ble_eq_true rfl) d_Re_init_8 (fun q8 => ?_)
  show fk_V E _ K (1, 200) [(r0, .inr (4, [.null, .null, .null, .null, .int (nI 0), .int (nI 0)])), fk_al E q8 200 (fun _ => 0)] 10 [(0, .ref r0)] [.ref q8, .ref r0]
  refine fk_putF (hini rfl) (w' := [(r0, .inr (4, [.ref q8, .null, .null, .null, .int (nI 0), .int (nI 0)])), fk_al E q8 200 (fun _ => 0)]) 0 0 fT_Re fT_Re_ok fT_Re_nm rfl rfl fh_Re (Nat.le_of_ble_eq_true rfl) fw_102 rfl rfl (fT_Re_ok 0 (Nat.le_of_ble_eq_true rfl)) rfl rfl (Nat.le_of_ble_eq_true rfl) d_Re_init_10 rfl ?_
  refine fk_aload_n 0 d_Re_init_13 rfl ?_
  refine fk_sipush (v := nI 512) d_Re_init_14 (by decide +kernel) ?_
  refine fk_new_aj (N := 512) fw_37 (by decide) (by decide) (Nat.le_of_ble_eq_true rfl) (Nat.le_of_ble_eq_true rfl) d_Re_init_17 (fun q17 => ?_)
  show fk_V E _ K (2, 712) [(r0, .inr (4, [.ref q8, .null, .null, .null, .int (nI 0), .int (nI 0)])), fk_al E q8 200 (fun _ => 0), fk_aj E q17 512 (fun _ => 1)] 19 [(0, .ref r0)] [.ref q17, .ref r0]
  refine fk_putF (hini rfl) (w' := [(r0, .inr (4, [.ref q8, .ref q17, .null, .null, .int (nI 0), .int (nI 0)])), fk_al E q8 200 (fun _ => 0), fk_aj E q17 512 (fun _ => 1)]) 0 1 fT_Re fT_Re_ok fT_Re_nm rfl rfl fh_Re (Nat.le_of_ble_eq_true rfl) fw_103 rfl rfl (fT_Re_ok 1 (Nat.le_of_ble_eq_true rfl)) rfl rfl (Nat.le_of_ble_eq_true rfl) d_Re_init_19 rfl ?_
  refine fk_aload_n 0 d_Re_init_22 rfl ?_
  refine fk_sipush (v := nI 1400) d_Re_init_23 (by decide +kernel) ?_
  refine fk_new_aj (N := 1400) fw_37 (by decide) (by decide) (Nat.le_of_ble_eq_true rfl) (Nat.le_of_ble_eq_true rfl) d_Re_init_26 (fun q26 => ?_)
  show fk_V E _ K (3, 2112) [(r0, .inr (4, [.ref q8, .ref q17, .null, .null, .int (nI 0), .int (nI 0)])), fk_al E q8 200 (fun _ => 0), fk_aj E q17 512 (fun _ => 1), fk_aj E q26 1400 (fun _ => 1)] 28 [(0, .ref r0)] [.ref q26, .ref r0]
  refine fk_putF (hini rfl) (w' := [(r0, .inr (4, [.ref q8, .ref q17, .ref q26, .null, .int (nI 0), .int (nI 0)])), fk_al E q8 200 (fun _ => 0), fk_aj E q17 512 (fun _ => 1), fk_aj E q26 1400 (fun _ => 1)]) 0 2 fT_Re fT_Re_ok fT_Re_nm rfl rfl fh_Re (Nat.le_of_ble_eq_true rfl) fw_104 rfl rfl (fT_Re_ok 2 (Nat.le_of_ble_eq_true rfl)) rfl rfl (Nat.le_of_ble_eq_true rfl) d_Re_init_28 rfl ?_
  refine fk_aload_n 0 d_Re_init_31 rfl ?_
  refine fk_sipush (v := nI 200) d_Re_init_32 (by decide +kernel) ?_
  refine fk_new_az (N := 200) fw_95 (by decide) (by decide) (Nat.le_of_ble_eq_true rfl) (Nat.le_of_ble_eq_true rfl) d_Re_init_35 (fun q35 => ?_)
  show fk_V E _ K (4, 2312) [(r0, .inr (4, [.ref q8, .ref q17, .ref q26, .null, .int (nI 0), .int (nI 0)])), fk_al E q8 200 (fun _ => 0), fk_aj E q17 512 (fun _ => 1), fk_aj E q26 1400 (fun _ => 1), fk_az E q35 200 (fun _ => false)] 37 [(0, .ref r0)] [.ref q35, .ref r0]
  refine fk_putF (hini rfl) (w' := [(r0, .inr (4, [.ref q8, .ref q17, .ref q26, .ref q35, .int (nI 0), .int (nI 0)])), fk_al E q8 200 (fun _ => 0), fk_aj E q17 512 (fun _ => 1), fk_aj E q26 1400 (fun _ => 1), fk_az E q35 200 (fun _ => false)]) 0 3 fT_Re fT_Re_ok fT_Re_nm rfl rfl fh_Re (Nat.le_of_ble_eq_true rfl) fw_105 rfl rfl (fT_Re_ok 3 (Nat.le_of_ble_eq_true rfl)) rfl rfl (Nat.le_of_ble_eq_true rfl) d_Re_init_37 rfl ?_
  refine fk_aload_n 0 d_Re_init_40 rfl ?_
  refine fk_iconst (v := nI 0) d_Re_init_41 (by decide +kernel) ?_
  refine fk_put (w' := [(r0, .inr (4, [.ref q8, .ref q17, .ref q26, .ref q35, .int (nI 0), .int (nI 0)])), fk_al E q8 200 (fun _ => 0), fk_aj E q17 512 (fun _ => 1), fk_aj E q26 1400 (fun _ => 1), fk_az E q35 200 (fun _ => false)]) 0 4 fT_Re fT_Re_ok fT_Re_nm rfl rfl fh_Re (Nat.le_of_ble_eq_true rfl) fw_106 rfl (fT_Re_ok 4 (Nat.le_of_ble_eq_true rfl)) rfl rfl (Nat.le_of_ble_eq_true rfl) d_Re_init_42 rfl ?_
  refine fk_aload_n 0 d_Re_init_45 rfl ?_
  refine fk_iconst (v := nI 0) d_Re_init_46 (by decide +kernel) ?_
  refine fk_put (w' := [(r0, .inr (4, [.ref q8, .ref q17, .ref q26, .ref q35, .int (nI 0), .int (nI 0)])), fk_al E q8 200 (fun _ => 0), fk_aj E q17 512 (fun _ => 1), fk_aj E q26 1400 (fun _ => 1), fk_az E q35 200 (fun _ => false)]) 0 5 fT_Re fT_Re_ok fT_Re_nm rfl rfl fh_Re (Nat.le_of_ble_eq_true rfl) fw_107 rfl (fT_Re_ok 5 (Nat.le_of_ble_eq_true rfl)) rfl rfl (Nat.le_of_ble_eq_true rfl) d_Re_init_47 rfl ?_
  exact hret (4, 2312) _ 50 _ (q8, q17, q26, q35) d_Re_init_50 (trivial) (rfl)
theorem d_Pl_init_0 : decode prog_5_method_1_code 0 = .ok (.aload_n 0, 1) := by decide +kernel
theorem d_Pl_init_1 : decode prog_5_method_1_code 1 = .ok (.invokespecial 3, 3) := by decide +kernel
theorem d_Pl_init_4 : decode prog_5_method_1_code 4 = .ok (.aload_n 0, 1) := by decide +kernel
theorem d_Pl_init_5 : decode prog_5_method_1_code 5 = .ok (.bipush 15, 2) := by decide +kernel
theorem d_Pl_init_7 : decode prog_5_method_1_code 7 = .ok (.newarray .int, 2) := by decide +kernel
theorem d_Pl_init_9 : decode prog_5_method_1_code 9 = .ok (.putfield 9, 3) := by decide +kernel
theorem d_Pl_init_12 : decode prog_5_method_1_code 12 = .ok (.aload_n 0, 1) := by decide +kernel
theorem d_Pl_init_13 : decode prog_5_method_1_code 13 = .ok (.iconst 0, 1) := by decide +kernel
theorem d_Pl_init_14 : decode prog_5_method_1_code 14 = .ok (.putfield 15, 3) := by decide +kernel
theorem d_Pl_init_17 : decode prog_5_method_1_code 17 = .ok (.return_, 1) := by decide +kernel
set_option maxRecDepth 20000 in
set_option maxHeartbeats 4000000 in
theorem cP_init (E : fk_E) (p0 : Nat)  : fk_C E fy_Pl_init prog_5_method_1_code 1 none 1 1 15 [.ref p0] [(p0, .inr (5, [.null, .int (nI 0)]))] (S := Nat) (fun (u : Nat) => none) (fun (u : Nat) => True) (fun (u : Nat) => [(p0, .inr (5, [.ref u, .int (nI 0)])), fk_ai E u 15 (fun _ => 0)]) := by
  refine fk_enterV (by decide) (Nat.le_of_ble_eq_true rfl) (lv0 := [(0, .ref p0)]) rfl ?_
  intro K hini hret
  refine fk_aload_n 0 d_Pl_init_0 rfl ?_
  refine fk_objInit d_Pl_init_1 fw_126 fw_16 fw_17 (Nat.le_of_ble_eq_true rfl) (Nat.le_of_ble_eq_true rfl) ?_
  refine fk_aload_n 0 d_Pl_init_4 rfl ?_
  refine fk_bipush (v := nI 15) d_Pl_init_5 (by decide +kernel) ?_
  refine fk_new_ai (N := 15) fw_37 (by decide) (by decide) (Nat.le_of_ble_eq_true rfl) (Nat.le_of_ble_eq_true rfl) d_Pl_init_7 (fun q7 => ?_)
  show fk_V E _ K (1, 15) [(p0, .inr (5, [.null, .int (nI 0)])), fk_ai E q7 15 (fun _ => 0)] 9 [(0, .ref p0)] [.ref q7, .ref p0]
  refine fk_putF (hini rfl) (w' := [(p0, .inr (5, [.ref q7, .int (nI 0)])), fk_ai E q7 15 (fun _ => 0)]) 0 0 fT_Pl fT_Pl_ok fT_Pl_nm rfl rfl fh_Pl (Nat.le_of_ble_eq_true rfl) fw_127 rfl rfl (fT_Pl_ok 0 (Nat.le_of_ble_eq_true rfl)) rfl rfl (Nat.le_of_ble_eq_true rfl) d_Pl_init_9 rfl ?_
  refine fk_aload_n 0 d_Pl_init_12 rfl ?_
  refine fk_iconst (v := nI 0) d_Pl_init_13 (by decide +kernel) ?_
  refine fk_put (w' := [(p0, .inr (5, [.ref q7, .int (nI 0)])), fk_ai E q7 15 (fun _ => 0)]) 0 1 fT_Pl fT_Pl_ok fT_Pl_nm rfl rfl fh_Pl (Nat.le_of_ble_eq_true rfl) fw_128 rfl (fT_Pl_ok 1 (Nat.le_of_ble_eq_true rfl)) rfl rfl (Nat.le_of_ble_eq_true rfl) d_Pl_init_14 rfl ?_
  exact hret (1, 15) _ 17 _ q7 d_Pl_init_17 (trivial) (rfl)
theorem d_Md_init_0 : decode prog_8_method_1_code 0 = .ok (.aload_n 0, 1) := by decide +kernel
theorem d_Md_init_1 : decode prog_8_method_1_code 1 = .ok (.invokespecial 1, 3) := by decide +kernel
theorem d_Md_init_4 : decode prog_8_method_1_code 4 = .ok (.aload_n 0, 1) := by decide +kernel
theorem d_Md_init_5 : decode prog_8_method_1_code 5 = .ok (.bipush 20, 2) := by decide +kernel
theorem d_Md_init_7 : decode prog_8_method_1_code 7 = .ok (.newarray .int, 2) := by decide +kernel
theorem d_Md_init_9 : decode prog_8_method_1_code 9 = .ok (.putfield 7, 3) := by decide +kernel
theorem d_Md_init_12 : decode prog_8_method_1_code 12 = .ok (.aload_n 0, 1) := by decide +kernel
theorem d_Md_init_13 : decode prog_8_method_1_code 13 = .ok (.sipush 300, 3) := by decide +kernel
theorem d_Md_init_16 : decode prog_8_method_1_code 16 = .ok (.newarray .int, 2) := by decide +kernel
theorem d_Md_init_18 : decode prog_8_method_1_code 18 = .ok (.putfield 13, 3) := by decide +kernel
theorem d_Md_init_21 : decode prog_8_method_1_code 21 = .ok (.aload_n 0, 1) := by decide +kernel
theorem d_Md_init_22 : decode prog_8_method_1_code 22 = .ok (.iconst 2, 1) := by decide +kernel
theorem d_Md_init_23 : decode prog_8_method_1_code 23 = .ok (.newarray .int, 2) := by decide +kernel
theorem d_Md_init_25 : decode prog_8_method_1_code 25 = .ok (.putfield 16, 3) := by decide +kernel
theorem d_Md_init_28 : decode prog_8_method_1_code 28 = .ok (.aload_n 0, 1) := by decide +kernel
theorem d_Md_init_29 : decode prog_8_method_1_code 29 = .ok (.bipush 28, 2) := by decide +kernel
theorem d_Md_init_31 : decode prog_8_method_1_code 31 = .ok (.newarray .int, 2) := by decide +kernel
theorem d_Md_init_33 : decode prog_8_method_1_code 33 = .ok (.putfield 19, 3) := by decide +kernel
theorem d_Md_init_36 : decode prog_8_method_1_code 36 = .ok (.aload_n 0, 1) := by decide +kernel
theorem d_Md_init_37 : decode prog_8_method_1_code 37 = .ok (.bipush 28, 2) := by decide +kernel
theorem d_Md_init_39 : decode prog_8_method_1_code 39 = .ok (.newarray .int, 2) := by decide +kernel
theorem d_Md_init_41 : decode prog_8_method_1_code 41 = .ok (.putfield 22, 3) := by decide +kernel
theorem d_Md_init_44 : decode prog_8_method_1_code 44 = .ok (.aload_n 0, 1) := by decide +kernel
theorem d_Md_init_45 : decode prog_8_method_1_code 45 = .ok (.iconst 2, 1) := by decide +kernel
theorem d_Md_init_46 : decode prog_8_method_1_code 46 = .ok (.newarray .int, 2) := by decide +kernel
theorem d_Md_init_48 : decode prog_8_method_1_code 48 = .ok (.putfield 25, 3) := by decide +kernel
theorem d_Md_init_51 : decode prog_8_method_1_code 51 = .ok (.aload_n 0, 1) := by decide +kernel
theorem d_Md_init_52 : decode prog_8_method_1_code 52 = .ok (.iconst 2, 1) := by decide +kernel
theorem d_Md_init_53 : decode prog_8_method_1_code 53 = .ok (.newarray .int, 2) := by decide +kernel
theorem d_Md_init_55 : decode prog_8_method_1_code 55 = .ok (.putfield 28, 3) := by decide +kernel
theorem d_Md_init_58 : decode prog_8_method_1_code 58 = .ok (.aload_n 0, 1) := by decide +kernel
theorem d_Md_init_59 : decode prog_8_method_1_code 59 = .ok (.iconst 2, 1) := by decide +kernel
theorem d_Md_init_60 : decode prog_8_method_1_code 60 = .ok (.newarray .int, 2) := by decide +kernel
theorem d_Md_init_62 : decode prog_8_method_1_code 62 = .ok (.putfield 31, 3) := by decide +kernel
theorem d_Md_init_65 : decode prog_8_method_1_code 65 = .ok (.aload_n 0, 1) := by decide +kernel
theorem d_Md_init_66 : decode prog_8_method_1_code 66 = .ok (.bipush 49, 2) := by decide +kernel
theorem d_Md_init_68 : decode prog_8_method_1_code 68 = .ok (.newarray .int, 2) := by decide +kernel
theorem d_Md_init_70 : decode prog_8_method_1_code 70 = .ok (.putfield 34, 3) := by decide +kernel
theorem d_Md_init_73 : decode prog_8_method_1_code 73 = .ok (.aload_n 0, 1) := by decide +kernel
theorem d_Md_init_74 : decode prog_8_method_1_code 74 = .ok (.bipush 15, 2) := by decide +kernel
theorem d_Md_init_76 : decode prog_8_method_1_code 76 = .ok (.newarray .int, 2) := by decide +kernel
theorem d_Md_init_78 : decode prog_8_method_1_code 78 = .ok (.putfield 37, 3) := by decide +kernel
theorem d_Md_init_81 : decode prog_8_method_1_code 81 = .ok (.aload_n 0, 1) := by decide +kernel
theorem d_Md_init_82 : decode prog_8_method_1_code 82 = .ok (.bipush 15, 2) := by decide +kernel
theorem d_Md_init_84 : decode prog_8_method_1_code 84 = .ok (.newarray .int, 2) := by decide +kernel
theorem d_Md_init_86 : decode prog_8_method_1_code 86 = .ok (.putfield 40, 3) := by decide +kernel
theorem d_Md_init_89 : decode prog_8_method_1_code 89 = .ok (.aload_n 0, 1) := by decide +kernel
theorem d_Md_init_90 : decode prog_8_method_1_code 90 = .ok (.bipush 16, 2) := by decide +kernel
theorem d_Md_init_92 : decode prog_8_method_1_code 92 = .ok (.newarray .int, 2) := by decide +kernel
theorem d_Md_init_94 : decode prog_8_method_1_code 94 = .ok (.putfield 43, 3) := by decide +kernel
theorem d_Md_init_97 : decode prog_8_method_1_code 97 = .ok (.aload_n 0, 1) := by decide +kernel
theorem d_Md_init_98 : decode prog_8_method_1_code 98 = .ok (.sipush 3216, 3) := by decide +kernel
theorem d_Md_init_101 : decode prog_8_method_1_code 101 = .ok (.newarray .byte, 2) := by decide +kernel
theorem d_Md_init_103 : decode prog_8_method_1_code 103 = .ok (.putfield 46, 3) := by decide +kernel
theorem d_Md_init_106 : decode prog_8_method_1_code 106 = .ok (.aload_n 0, 1) := by decide +kernel
theorem d_Md_init_107 : decode prog_8_method_1_code 107 = .ok (.sipush 1407, 3) := by decide +kernel
theorem d_Md_init_110 : decode prog_8_method_1_code 110 = .ok (.newarray .short, 2) := by decide +kernel
theorem d_Md_init_112 : decode prog_8_method_1_code 112 = .ok (.putfield 50, 3) := by decide +kernel
theorem d_Md_init_115 : decode prog_8_method_1_code 115 = .ok (.aload_n 0, 1) := by decide +kernel
theorem d_Md_init_116 : decode prog_8_method_1_code 116 = .ok (.sipush 201, 3) := by decide +kernel
theorem d_Md_init_119 : decode prog_8_method_1_code 119 = .ok (.newarray .boolean, 2) := by decide +kernel
theorem d_Md_init_121 : decode prog_8_method_1_code 121 = .ok (.putfield 54, 3) := by decide +kernel
theorem d_Md_init_124 : decode prog_8_method_1_code 124 = .ok (.return_, 1) := by decide +kernel
set_option maxRecDepth 20000 in
set_option maxHeartbeats 4000000 in
theorem cD_init (E : fk_E) (b0 : Nat)  : fk_C E fy_Md_init prog_8_method_1_code 1 none 1 15 5303 [.ref b0] [(b0, .inr (6, [.int (nI 0), .null, .null, .null, .null, .null, .null, .null, .null, .null, .int (nI 0), .null, .null, .null, .int (nI 0), .int (nI (Bool.toNat false)), .null, .null, .null]))] (S := Nat × Nat × Nat × Nat × Nat × Nat × Nat × Nat × Nat × Nat × Nat × Nat × Nat × Nat × Nat) (fun (u : Nat × Nat × Nat × Nat × Nat × Nat × Nat × Nat × Nat × Nat × Nat × Nat × Nat × Nat × Nat) => none) (fun (u : Nat × Nat × Nat × Nat × Nat × Nat × Nat × Nat × Nat × Nat × Nat × Nat × Nat × Nat × Nat) => True) (fun (u : Nat × Nat × Nat × Nat × Nat × Nat × Nat × Nat × Nat × Nat × Nat × Nat × Nat × Nat × Nat) => [(b0, .inr (6, [.int (nI 0), .ref u.1, .ref u.2.1, .ref u.2.2.1, .ref u.2.2.2.1, .ref u.2.2.2.2.1, .ref u.2.2.2.2.2.1, .ref u.2.2.2.2.2.2.1, .ref u.2.2.2.2.2.2.2.1, .ref u.2.2.2.2.2.2.2.2.1, .int (nI 0), .ref u.2.2.2.2.2.2.2.2.2.1, .ref u.2.2.2.2.2.2.2.2.2.2.1, .ref u.2.2.2.2.2.2.2.2.2.2.2.1, .int (nI 0), .int (nI (Bool.toNat false)), .ref u.2.2.2.2.2.2.2.2.2.2.2.2.1, .ref u.2.2.2.2.2.2.2.2.2.2.2.2.2.1, .ref u.2.2.2.2.2.2.2.2.2.2.2.2.2.2])), fk_ai E u.1 20 (fun _ => 0), fk_ai E u.2.1 300 (fun _ => 0), fk_ai E u.2.2.1 2 (fun _ => 0), fk_ai E u.2.2.2.1 28 (fun _ => 0), fk_ai E u.2.2.2.2.1 28 (fun _ => 0), fk_ai E u.2.2.2.2.2.1 2 (fun _ => 0), fk_ai E u.2.2.2.2.2.2.1 2 (fun _ => 0), fk_ai E u.2.2.2.2.2.2.2.1 2 (fun _ => 0), fk_ai E u.2.2.2.2.2.2.2.2.1 49 (fun _ => 0), fk_ai E u.2.2.2.2.2.2.2.2.2.1 15 (fun _ => 0), fk_ai E u.2.2.2.2.2.2.2.2.2.2.1 15 (fun _ => 0), fk_ai E u.2.2.2.2.2.2.2.2.2.2.2.1 16 (fun _ => 0), fk_ab E u.2.2.2.2.2.2.2.2.2.2.2.2.1 3216 (fun _ => 0), fk_as E u.2.2.2.2.2.2.2.2.2.2.2.2.2.1 1407 (fun _ => 1), fk_az E u.2.2.2.2.2.2.2.2.2.2.2.2.2.2 201 (fun _ => false)]) := by
  refine fk_enterV (by decide) (Nat.le_of_ble_eq_true rfl) (lv0 := [(0, .ref b0)]) rfl ?_
  intro K hini hret
  refine fk_aload_n 0 d_Md_init_0 rfl ?_
  refine fk_objInit d_Md_init_1 fw_506 fw_16 fw_17 (Nat.le_of_ble_eq_true rfl) (Nat.le_of_ble_eq_true rfl) ?_
  refine fk_aload_n 0 d_Md_init_4 rfl ?_
  refine fk_bipush (v := nI 20) d_Md_init_5 (by decide +kernel) ?_
  refine fk_new_ai (N := 20) fw_37 (by decide) (by decide) (Nat.le_of_ble_eq_true rfl) (Nat.le_of_ble_eq_true rfl) d_Md_init_7 (fun q7 => ?_)
  show fk_V E _ K (1, 20) [(b0, .inr (6, [.int (nI 0), .null, .null, .null, .null, .null, .null, .null, .null, .null, .int (nI 0), .null, .null, .null, .int (nI 0), .int (nI (Bool.toNat false)), .null, .null, .null])), fk_ai E q7 20 (fun _ => 0)] 9 [(0, .ref b0)] [.ref q7, .ref b0]
  refine fk_putF (hini rfl) (w' := [(b0, .inr (6, [.int (nI 0), .ref q7, .null, .null, .null, .null, .null, .null, .null, .null, .int (nI 0), .null, .null, .null, .int (nI 0), .int (nI (Bool.toNat false)), .null, .null, .null])), fk_ai E q7 20 (fun _ => 0)]) 0 1 fT_Md fT_Md_ok fT_Md_nm rfl rfl fh_Md (Nat.le_of_ble_eq_true rfl) fw_508 rfl rfl (fT_Md_ok 1 (Nat.le_of_ble_eq_true rfl)) rfl rfl (Nat.le_of_ble_eq_true rfl) d_Md_init_9 rfl ?_
  refine fk_aload_n 0 d_Md_init_12 rfl ?_
  refine fk_sipush (v := nI 300) d_Md_init_13 (by decide +kernel) ?_
  refine fk_new_ai (N := 300) fw_37 (by decide) (by decide) (Nat.le_of_ble_eq_true rfl) (Nat.le_of_ble_eq_true rfl) d_Md_init_16 (fun q16 => ?_)
  show fk_V E _ K (2, 320) [(b0, .inr (6, [.int (nI 0), .ref q7, .null, .null, .null, .null, .null, .null, .null, .null, .int (nI 0), .null, .null, .null, .int (nI 0), .int (nI (Bool.toNat false)), .null, .null, .null])), fk_ai E q7 20 (fun _ => 0), fk_ai E q16 300 (fun _ => 0)] 18 [(0, .ref b0)] [.ref q16, .ref b0]
  refine fk_putF (hini rfl) (w' := [(b0, .inr (6, [.int (nI 0), .ref q7, .ref q16, .null, .null, .null, .null, .null, .null, .null, .int (nI 0), .null, .null, .null, .int (nI 0), .int (nI (Bool.toNat false)), .null, .null, .null])), fk_ai E q7 20 (fun _ => 0), fk_ai E q16 300 (fun _ => 0)]) 0 2 fT_Md fT_Md_ok fT_Md_nm rfl rfl fh_Md (Nat.le_of_ble_eq_true rfl) fw_509 rfl rfl (fT_Md_ok 2 (Nat.le_of_ble_eq_true rfl)) rfl rfl (Nat.le_of_ble_eq_true rfl) d_Md_init_18 rfl ?_
  refine fk_aload_n 0 d_Md_init_21 rfl ?_
  refine fk_iconst (v := nI 2) d_Md_init_22 (by decide +kernel) ?_
  refine fk_new_ai (N := 2) fw_37 (by decide) (by decide) (Nat.le_of_ble_eq_true rfl) (Nat.le_of_ble_eq_true rfl) d_Md_init_23 (fun q23 => ?_)
  show fk_V E _ K (3, 322) [(b0, .inr (6, [.int (nI 0), .ref q7, .ref q16, .null, .null, .null, .null, .null, .null, .null, .int (nI 0), .null, .null, .null, .int (nI 0), .int (nI (Bool.toNat false)), .null, .null, .null])), fk_ai E q7 20 (fun _ => 0), fk_ai E q16 300 (fun _ => 0), fk_ai E q23 2 (fun _ => 0)] 25 [(0, .ref b0)] [.ref q23, .ref b0]
  refine fk_putF (hini rfl) (w' := [(b0, .inr (6, [.int (nI 0), .ref q7, .ref q16, .ref q23, .null, .null, .null, .null, .null, .null, .int (nI 0), .null, .null, .null, .int (nI 0), .int (nI (Bool.toNat false)), .null, .null, .null])), fk_ai E q7 20 (fun _ => 0), fk_ai E q16 300 (fun _ => 0), fk_ai E q23 2 (fun _ => 0)]) 0 3 fT_Md fT_Md_ok fT_Md_nm rfl rfl fh_Md (Nat.le_of_ble_eq_true rfl) fw_510 rfl rfl (fT_Md_ok 3 (Nat.le_of_ble_eq_true rfl)) rfl rfl (Nat.le_of_ble_eq_true rfl) d_Md_init_25 rfl ?_
  refine fk_aload_n 0 d_Md_init_28 rfl ?_
  refine fk_bipush (v := nI 28) d_Md_init_29 (by decide +kernel) ?_
  refine fk_new_ai (N := 28) fw_37 (by decide) (by decide) (Nat.le_of_ble_eq_true rfl) (Nat.le_of_ble_eq_true rfl) d_Md_init_31 (fun q31 => ?_)
  show fk_V E _ K (4, 350) [(b0, .inr (6, [.int (nI 0), .ref q7, .ref q16, .ref q23, .null, .null, .null, .null, .null, .null, .int (nI 0), .null, .null, .null, .int (nI 0), .int (nI (Bool.toNat false)), .null, .null, .null])), fk_ai E q7 20 (fun _ => 0), fk_ai E q16 300 (fun _ => 0), fk_ai E q23 2 (fun _ => 0), fk_ai E q31 28 (fun _ => 0)] 33 [(0, .ref b0)] [.ref q31, .ref b0]
  refine fk_putF (hini rfl) (w' := [(b0, .inr (6, [.int (nI 0), .ref q7, .ref q16, .ref q23, .ref q31, .null, .null, .null, .null, .null, .int (nI 0), .null, .null, .null, .int (nI 0), .int (nI (Bool.toNat false)), .null, .null, .null])), fk_ai E q7 20 (fun _ => 0), fk_ai E q16 300 (fun _ => 0), fk_ai E q23 2 (fun _ => 0), fk_ai E q31 28 (fun _ => 0)]) 0 4 fT_Md fT_Md_ok fT_Md_nm rfl rfl fh_Md (Nat.le_of_ble_eq_true rfl) fw_511 rfl rfl (fT_Md_ok 4 (Nat.le_of_ble_eq_true rfl)) rfl rfl (Nat.le_of_ble_eq_true rfl) d_Md_init_33 rfl ?_
  refine fk_aload_n 0 d_Md_init_36 rfl ?_
  refine fk_bipush (v := nI 28) d_Md_init_37 (by decide +kernel) ?_
  refine fk_new_ai (N := 28) fw_37 (by decide) (by decide) (Nat.le_of_ble_eq_true rfl) (Nat.le_of_ble_eq_true rfl) d_Md_init_39 (fun q39 => ?_)
  show fk_V E _ K (5, 378) [(b0, .inr (6, [.int (nI 0), .ref q7, .ref q16, .ref q23, .ref q31, .null, .null, .null, .null, .null, .int (nI 0), .null, .null, .null, .int (nI 0), .int (nI (Bool.toNat false)), .null, .null, .null])), fk_ai E q7 20 (fun _ => 0), fk_ai E q16 300 (fun _ => 0), fk_ai E q23 2 (fun _ => 0), fk_ai E q31 28 (fun _ => 0), fk_ai E q39 28 (fun _ => 0)] 41 [(0, .ref b0)] [.ref q39, .ref b0]
  refine fk_putF (hini rfl) (w' := [(b0, .inr (6, [.int (nI 0), .ref q7, .ref q16, .ref q23, .ref q31, .ref q39, .null, .null, .null, .null, .int (nI 0), .null, .null, .null, .int (nI 0), .int (nI (Bool.toNat false)), .null, .null, .null])), fk_ai E q7 20 (fun _ => 0), fk_ai E q16 300 (fun _ => 0), fk_ai E q23 2 (fun _ => 0), fk_ai E q31 28 (fun _ => 0), fk_ai E q39 28 (fun _ => 0)]) 0 5 fT_Md fT_Md_ok fT_Md_nm rfl rfl fh_Md (Nat.le_of_ble_eq_true rfl) fw_512 rfl rfl (fT_Md_ok 5 (Nat.le_of_ble_eq_true rfl)) rfl rfl (Nat.le_of_ble_eq_true rfl) d_Md_init_41 rfl ?_
  refine fk_aload_n 0 d_Md_init_44 rfl ?_
  refine fk_iconst (v := nI 2) d_Md_init_45 (by decide +kernel) ?_
  refine fk_new_ai (N := 2) fw_37 (by decide) (by decide) (Nat.le_of_ble_eq_true rfl) (Nat.le_of_ble_eq_true rfl) d_Md_init_46 (fun q46 => ?_)
  show fk_V E _ K (6, 380) [(b0, .inr (6, [.int (nI 0), .ref q7, .ref q16, .ref q23, .ref q31, .ref q39, .null, .null, .null, .null, .int (nI 0), .null, .null, .null, .int (nI 0), .int (nI (Bool.toNat false)), .null, .null, .null])), fk_ai E q7 20 (fun _ => 0), fk_ai E q16 300 (fun _ => 0), fk_ai E q23 2 (fun _ => 0), fk_ai E q31 28 (fun _ => 0), fk_ai E q39 28 (fun _ => 0), fk_ai E q46 2 (fun _ => 0)] 48 [(0, .ref b0)] [.ref q46, .ref b0]
  refine fk_putF (hini rfl) (w' := [(b0, .inr (6, [.int (nI 0), .ref q7, .ref q16, .ref q23, .ref q31, .ref q39, .ref q46, .null, .null, .null, .int (nI 0), .null, .null, .null, .int (nI 0), .int (nI (Bool.toNat false)), .null, .null, .null])), fk_ai E q7 20 (fun _ => 0), fk_ai E q16 300 (fun _ => 0), fk_ai E q23 2 (fun _ => 0), fk_ai E q31 28 (fun _ => 0), fk_ai E q39 28 (fun _ => 0), fk_ai E q46 2 (fun _ => 0)]) 0 6 fT_Md fT_Md_ok fT_Md_nm rfl rfl fh_Md (Nat.le_of_ble_eq_true rfl) fw_513 rfl rfl (fT_Md_ok 6 (Nat.le_of_ble_eq_true rfl)) rfl rfl (Nat.le_of_ble_eq_true rfl) d_Md_init_48 rfl ?_
  refine fk_aload_n 0 d_Md_init_51 rfl ?_
  refine fk_iconst (v := nI 2) d_Md_init_52 (by decide +kernel) ?_
  refine fk_new_ai (N := 2) fw_37 (by decide) (by decide) (Nat.le_of_ble_eq_true rfl) (Nat.le_of_ble_eq_true rfl) d_Md_init_53 (fun q53 => ?_)
  show fk_V E _ K (7, 382) [(b0, .inr (6, [.int (nI 0), .ref q7, .ref q16, .ref q23, .ref q31, .ref q39, .ref q46, .null, .null, .null, .int (nI 0), .null, .null, .null, .int (nI 0), .int (nI (Bool.toNat false)), .null, .null, .null])), fk_ai E q7 20 (fun _ => 0), fk_ai E q16 300 (fun _ => 0), fk_ai E q23 2 (fun _ => 0), fk_ai E q31 28 (fun _ => 0), fk_ai E q39 28 (fun _ => 0), fk_ai E q46 2 (fun _ => 0), fk_ai E q53 2 (fun _ => 0)] 55 [(0, .ref b0)] [.ref q53, .ref b0]
  refine fk_putF (hini rfl) (w' := [(b0, .inr (6, [.int (nI 0), .ref q7, .ref q16, .ref q23, .ref q31, .ref q39, .ref q46, .ref q53, .null, .null, .int (nI 0), .null, .null, .null, .int (nI 0), .int (nI (Bool.toNat false)), .null, .null, .null])), fk_ai E q7 20 (fun _ => 0), fk_ai E q16 300 (fun _ => 0), fk_ai E q23 2 (fun _ => 0), fk_ai E q31 28 (fun _ => 0), fk_ai E q39 28 (fun _ => 0), fk_ai E q46 2 (fun _ => 0), fk_ai E q53 2 (fun _ => 0)]) 0 7 fT_Md fT_Md_ok fT_Md_nm rfl rfl fh_Md (Nat.le_of_ble_eq_true rfl) fw_514 rfl rfl (fT_Md_ok 7 (Nat.le_of_ble_eq_true rfl)) rfl rfl (Nat.le_of_ble_eq_true rfl) d_Md_init_55 rfl ?_
  refine fk_aload_n 0 d_Md_init_58 rfl ?_
  refine fk_iconst (v := nI 2) d_Md_init_59 (by decide +kernel) ?_
  refine fk_new_ai (N := 2) fw_37 (by decide) (by decide) (Nat.le_of_ble_eq_true rfl) (Nat.le_of_ble_eq_true rfl) d_Md_init_60 (fun q60 => ?_)
  show fk_V E _ K (8, 384) [(b0, .inr (6, [.int (nI 0), .ref q7, .ref q16, .ref q23, .ref q31, .ref q39, .ref q46, .ref q53, .null, .null, .int (nI 0), .null, .null, .null, .int (nI 0), .int (nI (Bool.toNat false)), .null, .null, .null])), fk_ai E q7 20 (fun _ => 0), fk_ai E q16 300 (fun _ => 0), fk_ai E q23 2 (fun _ => 0), fk_ai E q31 28 (fun _ => 0), fk_ai E q39 28 (fun _ => 0), fk_ai E q46 2 (fun _ => 0), fk_ai E q53 2 (fun _ => 0), fk_ai E q60 2 (fun _ => 0)] 62 [(0, .ref b0)] [.ref q60, .ref b0]
  refine fk_putF (hini rfl) (w' := [(b0, .inr (6, [.int (nI 0), .ref q7, .ref q16, .ref q23, .ref q31, .ref q39, .ref q46, .ref q53, .ref q60, .null, .int (nI 0), .null, .null, .null, .int (nI 0), .int (nI (Bool.toNat false)), .null, .null, .null])), fk_ai E q7 20 (fun _ => 0), fk_ai E q16 300 (fun _ => 0), fk_ai E q23 2 (fun _ => 0), fk_ai E q31 28 (fun _ => 0), fk_ai E q39 28 (fun _ => 0), fk_ai E q46 2 (fun _ => 0), fk_ai E q53 2 (fun _ => 0), fk_ai E q60 2 (fun _ => 0)]) 0 8 fT_Md fT_Md_ok fT_Md_nm rfl rfl fh_Md (Nat.le_of_ble_eq_true rfl) fw_515 rfl rfl (fT_Md_ok 8 (Nat.le_of_ble_eq_true rfl)) rfl rfl (Nat.le_of_ble_eq_true rfl) d_Md_init_62 rfl ?_
  refine fk_aload_n 0 d_Md_init_65 rfl ?_
  refine fk_bipush (v := nI 49) d_Md_init_66 (by decide +kernel) ?_
  refine fk_new_ai (N := 49) fw_37 (by decide) (by decide) (Nat.le_of_ble_eq_true rfl) (Nat.le_of_ble_eq_true rfl) d_Md_init_68 (fun q68 => ?_)
  show fk_V E _ K (9, 433) [(b0, .inr (6, [.int (nI 0), .ref q7, .ref q16, .ref q23, .ref q31, .ref q39, .ref q46, .ref q53, .ref q60, .null, .int (nI 0), .null, .null, .null, .int (nI 0), .int (nI (Bool.toNat false)), .null, .null, .null])), fk_ai E q7 20 (fun _ => 0), fk_ai E q16 300 (fun _ => 0), fk_ai E q23 2 (fun _ => 0), fk_ai E q31 28 (fun _ => 0), fk_ai E q39 28 (fun _ => 0), fk_ai E q46 2 (fun _ => 0), fk_ai E q53 2 (fun _ => 0), fk_ai E q60 2 (fun _ => 0), fk_ai E q68 49 (fun _ => 0)] 70 [(0, .ref b0)] [.ref q68, .ref b0]
  refine fk_putF (hini rfl) (w' := [(b0, .inr (6, [.int (nI 0), .ref q7, .ref q16, .ref q23, .ref q31, .ref q39, .ref q46, .ref q53, .ref q60, .ref q68, .int (nI 0), .null, .null, .null, .int (nI 0), .int (nI (Bool.toNat false)), .null, .null, .null])), fk_ai E q7 20 (fun _ => 0), fk_ai E q16 300 (fun _ => 0), fk_ai E q23 2 (fun _ => 0), fk_ai E q31 28 (fun _ => 0), fk_ai E q39 28 (fun _ => 0), fk_ai E q46 2 (fun _ => 0), fk_ai E q53 2 (fun _ => 0), fk_ai E q60 2 (fun _ => 0), fk_ai E q68 49 (fun _ => 0)]) 0 9 fT_Md fT_Md_ok fT_Md_nm rfl rfl fh_Md (Nat.le_of_ble_eq_true rfl) fw_516 rfl rfl (fT_Md_ok 9 (Nat.le_of_ble_eq_true rfl)) rfl rfl (Nat.le_of_ble_eq_true rfl) d_Md_init_70 rfl ?_
  refine fk_aload_n 0 d_Md_init_73 rfl ?_
  refine fk_bipush (v := nI 15) d_Md_init_74 (by decide +kernel) ?_
  refine fk_new_ai (N := 15) fw_37 (by decide) (by decide) (Nat.le_of_ble_eq_true rfl) (Nat.le_of_ble_eq_true rfl) d_Md_init_76 (fun q76 => ?_)
  show fk_V E _ K (10, 448) [(b0, .inr (6, [.int (nI 0), .ref q7, .ref q16, .ref q23, .ref q31, .ref q39, .ref q46, .ref q53, .ref q60, .ref q68, .int (nI 0), .null, .null, .null, .int (nI 0), .int (nI (Bool.toNat false)), .null, .null, .null])), fk_ai E q7 20 (fun _ => 0), fk_ai E q16 300 (fun _ => 0), fk_ai E q23 2 (fun _ => 0), fk_ai E q31 28 (fun _ => 0), fk_ai E q39 28 (fun _ => 0), fk_ai E q46 2 (fun _ => 0), fk_ai E q53 2 (fun _ => 0), fk_ai E q60 2 (fun _ => 0), fk_ai E q68 49 (fun _ => 0), fk_ai E q76 15 (fun _ => 0)] 78 [(0, .ref b0)] [.ref q76, .ref b0]
  refine fk_putF (hini rfl) (w' := [(b0, .inr (6, [.int (nI 0), .ref q7, .ref q16, .ref q23, .ref q31, .ref q39, .ref q46, .ref q53, .ref q60, .ref q68, .int (nI 0), .ref q76, .null, .null, .int (nI 0), .int (nI (Bool.toNat false)), .null, .null, .null])), fk_ai E q7 20 (fun _ => 0), fk_ai E q16 300 (fun _ => 0), fk_ai E q23 2 (fun _ => 0), fk_ai E q31 28 (fun _ => 0), fk_ai E q39 28 (fun _ => 0), fk_ai E q46 2 (fun _ => 0), fk_ai E q53 2 (fun _ => 0), fk_ai E q60 2 (fun _ => 0), fk_ai E q68 49 (fun _ => 0), fk_ai E q76 15 (fun _ => 0)]) 0 11 fT_Md fT_Md_ok fT_Md_nm rfl rfl fh_Md (Nat.le_of_ble_eq_true rfl) fw_518 rfl rfl (fT_Md_ok 11 (Nat.le_of_ble_eq_true rfl)) rfl rfl (Nat.le_of_ble_eq_true rfl) d_Md_init_78 rfl ?_
  refine fk_aload_n 0 d_Md_init_81 rfl ?_
  refine fk_bipush (v := nI 15) d_Md_init_82 (by decide +kernel) ?_
  refine fk_new_ai (N := 15) fw_37 (by decide) (by decide) (Nat.le_of_ble_eq_true rfl) (Nat.le_of_ble_eq_true rfl) d_Md_init_84 (fun q84 => ?_)
  show fk_V E _ K (11, 463) [(b0, .inr (6, [.int (nI 0), .ref q7, .ref q16, .ref q23, .ref q31, .ref q39, .ref q46, .ref q53, .ref q60, .ref q68, .int (nI 0), .ref q76, .null, .null, .int (nI 0), .int (nI (Bool.toNat false)), .null, .null, .null])), fk_ai E q7 20 (fun _ => 0), fk_ai E q16 300 (fun _ => 0), fk_ai E q23 2 (fun _ => 0), fk_ai E q31 28 (fun _ => 0), fk_ai E q39 28 (fun _ => 0), fk_ai E q46 2 (fun _ => 0), fk_ai E q53 2 (fun _ => 0), fk_ai E q60 2 (fun _ => 0), fk_ai E q68 49 (fun _ => 0), fk_ai E q76 15 (fun _ => 0), fk_ai E q84 15 (fun _ => 0)] 86 [(0, .ref b0)] [.ref q84, .ref b0]
  refine fk_putF (hini rfl) (w' := [(b0, .inr (6, [.int (nI 0), .ref q7, .ref q16, .ref q23, .ref q31, .ref q39, .ref q46, .ref q53, .ref q60, .ref q68, .int (nI 0), .ref q76, .ref q84, .null, .int (nI 0), .int (nI (Bool.toNat false)), .null, .null, .null])), fk_ai E q7 20 (fun _ => 0), fk_ai E q16 300 (fun _ => 0), fk_ai E q23 2 (fun _ => 0), fk_ai E q31 28 (fun _ => 0), fk_ai E q39 28 (fun _ => 0), fk_ai E q46 2 (fun _ => 0), fk_ai E q53 2 (fun _ => 0), fk_ai E q60 2 (fun _ => 0), fk_ai E q68 49 (fun _ => 0), fk_ai E q76 15 (fun _ => 0), fk_ai E q84 15 (fun _ => 0)]) 0 12 fT_Md fT_Md_ok fT_Md_nm rfl rfl fh_Md (Nat.le_of_ble_eq_true rfl) fw_519 rfl rfl (fT_Md_ok 12 (Nat.le_of_ble_eq_true rfl)) rfl rfl (Nat.le_of_ble_eq_true rfl) d_Md_init_86 rfl ?_
  refine fk_aload_n 0 d_Md_init_89 rfl ?_
  refine fk_bipush (v := nI 16) d_Md_init_90 (by decide +kernel) ?_
  refine fk_new_ai (N := 16) fw_37 (by decide) (by decide) (Nat.le_of_ble_eq_true rfl) (Nat.le_of_ble_eq_true rfl) d_Md_init_92 (fun q92 => ?_)
  show fk_V E _ K (12, 479) [(b0, .inr (6, [.int (nI 0), .ref q7, .ref q16, .ref q23, .ref q31, .ref q39, .ref q46, .ref q53, .ref q60, .ref q68, .int (nI 0), .ref q76, .ref q84, .null, .int (nI 0), .int (nI (Bool.toNat false)), .null, .null, .null])), fk_ai E q7 20 (fun _ => 0), fk_ai E q16 300 (fun _ => 0), fk_ai E q23 2 (fun _ => 0), fk_ai E q31 28 (fun _ => 0), fk_ai E q39 28 (fun _ => 0), fk_ai E q46 2 (fun _ => 0), fk_ai E q53 2 (fun _ => 0), fk_ai E q60 2 (fun _ => 0), fk_ai E q68 49 (fun _ => 0), fk_ai E q76 15 (fun _ => 0), fk_ai E q84 15 (fun _ => 0), fk_ai E q92 16 (fun _ => 0)] 94 [(0, .ref b0)] [.ref q92, .ref b0]
  refine fk_putF (hini rfl) (w' := [(b0, .inr (6, [.int (nI 0), .ref q7, .ref q16, .ref q23, .ref q31, .ref q39, .ref q46, .ref q53, .ref q60, .ref q68, .int (nI 0), .ref q76, .ref q84, .ref q92, .int (nI 0), .int (nI (Bool.toNat false)), .null, .null, .null])), fk_ai E q7 20 (fun _ => 0), fk_ai E q16 300 (fun _ => 0), fk_ai E q23 2 (fun _ => 0), fk_ai E q31 28 (fun _ => 0), fk_ai E q39 28 (fun _ => 0), fk_ai E q46 2 (fun _ => 0), fk_ai E q53 2 (fun _ => 0), fk_ai E q60 2 (fun _ => 0), fk_ai E q68 49 (fun _ => 0), fk_ai E q76 15 (fun _ => 0), fk_ai E q84 15 (fun _ => 0), fk_ai E q92 16 (fun _ => 0)]) 0 13 fT_Md fT_Md_ok fT_Md_nm rfl rfl fh_Md (Nat.le_of_ble_eq_true rfl) fw_520 rfl rfl (fT_Md_ok 13 (Nat.le_of_ble_eq_true rfl)) rfl rfl (Nat.le_of_ble_eq_true rfl) d_Md_init_94 rfl ?_
  refine fk_aload_n 0 d_Md_init_97 rfl ?_
  refine fk_sipush (v := nI 3216) d_Md_init_98 (by decide +kernel) ?_
  refine fk_new_ab (N := 3216) fw_565 (by decide) (by decide) (Nat.le_of_ble_eq_true rfl) (Nat.le_of_ble_eq_true rfl) d_Md_init_101 (fun q101 => ?_)
  show fk_V E _ K (13, 3695) [(b0, .inr (6, [.int (nI 0), .ref q7, .ref q16, .ref q23, .ref q31, .ref q39, .ref q46, .ref q53, .ref q60, .ref q68, .int (nI 0), .ref q76, .ref q84, .ref q92, .int (nI 0), .int (nI (Bool.toNat false)), .null, .null, .null])), fk_ai E q7 20 (fun _ => 0), fk_ai E q16 300 (fun _ => 0), fk_ai E q23 2 (fun _ => 0), fk_ai E q31 28 (fun _ => 0), fk_ai E q39 28 (fun _ => 0), fk_ai E q46 2 (fun _ => 0), fk_ai E q53 2 (fun _ => 0), fk_ai E q60 2 (fun _ => 0), fk_ai E q68 49 (fun _ => 0), fk_ai E q76 15 (fun _ => 0), fk_ai E q84 15 (fun _ => 0), fk_ai E q92 16 (fun _ => 0), fk_ab E q101 3216 (fun _ => 0)] 103 [(0, .ref b0)] [.ref q101, .ref b0]
  refine fk_putF (hini rfl) (w' := [(b0, .inr (6, [.int (nI 0), .ref q7, .ref q16, .ref q23, .ref q31, .ref q39, .ref q46, .ref q53, .ref q60, .ref q68, .int (nI 0), .ref q76, .ref q84, .ref q92, .int (nI 0), .int (nI (Bool.toNat false)), .ref q101, .null, .null])), fk_ai E q7 20 (fun _ => 0), fk_ai E q16 300 (fun _ => 0), fk_ai E q23 2 (fun _ => 0), fk_ai E q31 28 (fun _ => 0), fk_ai E q39 28 (fun _ => 0), fk_ai E q46 2 (fun _ => 0), fk_ai E q53 2 (fun _ => 0), fk_ai E q60 2 (fun _ => 0), fk_ai E q68 49 (fun _ => 0), fk_ai E q76 15 (fun _ => 0), fk_ai E q84 15 (fun _ => 0), fk_ai E q92 16 (fun _ => 0), fk_ab E q101 3216 (fun _ => 0)]) 0 16 fT_Md fT_Md_ok fT_Md_nm rfl rfl fh_Md (Nat.le_of_ble_eq_true rfl) fw_523 rfl rfl (fT_Md_ok 16 (Nat.le_of_ble_eq_true rfl)) rfl rfl (Nat.le_of_ble_eq_true rfl) d_Md_init_103 rfl ?_
  refine fk_aload_n 0 d_Md_init_106 rfl ?_
  refine fk_sipush (v := nI 1407) d_Md_init_107 (by decide +kernel) ?_
  refine fk_new_as (N := 1407) fw_566 (by decide) (by decide) (Nat.le_of_ble_eq_true rfl) (Nat.le_of_ble_eq_true rfl) d_Md_init_110 (fun q110 => ?_)
  show fk_V E _ K (14, 5102) [(b0, .inr (6, [.int (nI 0), .ref q7, .ref q16, .ref q23, .ref q31, .ref q39, .ref q46, .ref q53, .ref q60, .ref q68, .int (nI 0), .ref q76, .ref q84, .ref q92, .int (nI 0), .int (nI (Bool.toNat false)), .ref q101, .null, .null])), fk_ai E q7 20 (fun _ => 0), fk_ai E q16 300 (fun _ => 0), fk_ai E q23 2 (fun _ => 0), fk_ai E q31 28 (fun _ => 0), fk_ai E q39 28 (fun _ => 0), fk_ai E q46 2 (fun _ => 0), fk_ai E q53 2 (fun _ => 0), fk_ai E q60 2 (fun _ => 0), fk_ai E q68 49 (fun _ => 0), fk_ai E q76 15 (fun _ => 0), fk_ai E q84 15 (fun _ => 0), fk_ai E q92 16 (fun _ => 0), fk_ab E q101 3216 (fun _ => 0), fk_as E q110 1407 (fun _ => 1)] 112 [(0, .ref b0)] [.ref q110, .ref b0]
  refine fk_putF (hini rfl) (w' := [(b0, .inr (6, [.int (nI 0), .ref q7, .ref q16, .ref q23, .ref q31, .ref q39, .ref q46, .ref q53, .ref q60, .ref q68, .int (nI 0), .ref q76, .ref q84, .ref q92, .int (nI 0), .int (nI (Bool.toNat false)), .ref q101, .ref q110, .null])), fk_ai E q7 20 (fun _ => 0), fk_ai E q16 300 (fun _ => 0), fk_ai E q23 2 (fun _ => 0), fk_ai E q31 28 (fun _ => 0), fk_ai E q39 28 (fun _ => 0), fk_ai E q46 2 (fun _ => 0), fk_ai E q53 2 (fun _ => 0), fk_ai E q60 2 (fun _ => 0), fk_ai E q68 49 (fun _ => 0), fk_ai E q76 15 (fun _ => 0), fk_ai E q84 15 (fun _ => 0), fk_ai E q92 16 (fun _ => 0), fk_ab E q101 3216 (fun _ => 0), fk_as E q110 1407 (fun _ => 1)]) 0 17 fT_Md fT_Md_ok fT_Md_nm rfl rfl fh_Md (Nat.le_of_ble_eq_true rfl) fw_524 rfl rfl (fT_Md_ok 17 (Nat.le_of_ble_eq_true rfl)) rfl rfl (Nat.le_of_ble_eq_true rfl) d_Md_init_112 rfl ?_
  refine fk_aload_n 0 d_Md_init_115 rfl ?_
  refine fk_sipush (v := nI 201) d_Md_init_116 (by decide +kernel) ?_
  refine fk_new_az (N := 201) fw_95 (by decide) (by decide) (Nat.le_of_ble_eq_true rfl) (Nat.le_of_ble_eq_true rfl) d_Md_init_119 (fun q119 => ?_)
  show fk_V E _ K (15, 5303) [(b0, .inr (6, [.int (nI 0), .ref q7, .ref q16, .ref q23, .ref q31, .ref q39, .ref q46, .ref q53, .ref q60, .ref q68, .int (nI 0), .ref q76, .ref q84, .ref q92, .int (nI 0), .int (nI (Bool.toNat false)), .ref q101, .ref q110, .null])), fk_ai E q7 20 (fun _ => 0), fk_ai E q16 300 (fun _ => 0), fk_ai E q23 2 (fun _ => 0), fk_ai E q31 28 (fun _ => 0), fk_ai E q39 28 (fun _ => 0), fk_ai E q46 2 (fun _ => 0), fk_ai E q53 2 (fun _ => 0), fk_ai E q60 2 (fun _ => 0), fk_ai E q68 49 (fun _ => 0), fk_ai E q76 15 (fun _ => 0), fk_ai E q84 15 (fun _ => 0), fk_ai E q92 16 (fun _ => 0), fk_ab E q101 3216 (fun _ => 0), fk_as E q110 1407 (fun _ => 1), fk_az E q119 201 (fun _ => false)] 121 [(0, .ref b0)] [.ref q119, .ref b0]
  refine fk_putF (hini rfl) (w' := [(b0, .inr (6, [.int (nI 0), .ref q7, .ref q16, .ref q23, .ref q31, .ref q39, .ref q46, .ref q53, .ref q60, .ref q68, .int (nI 0), .ref q76, .ref q84, .ref q92, .int (nI 0), .int (nI (Bool.toNat false)), .ref q101, .ref q110, .ref q119])), fk_ai E q7 20 (fun _ => 0), fk_ai E q16 300 (fun _ => 0), fk_ai E q23 2 (fun _ => 0), fk_ai E q31 28 (fun _ => 0), fk_ai E q39 28 (fun _ => 0), fk_ai E q46 2 (fun _ => 0), fk_ai E q53 2 (fun _ => 0), fk_ai E q60 2 (fun _ => 0), fk_ai E q68 49 (fun _ => 0), fk_ai E q76 15 (fun _ => 0), fk_ai E q84 15 (fun _ => 0), fk_ai E q92 16 (fun _ => 0), fk_ab E q101 3216 (fun _ => 0), fk_as E q110 1407 (fun _ => 1), fk_az E q119 201 (fun _ => false)]) 0 18 fT_Md fT_Md_ok fT_Md_nm rfl rfl fh_Md (Nat.le_of_ble_eq_true rfl) fw_525 rfl rfl (fT_Md_ok 18 (Nat.le_of_ble_eq_true rfl)) rfl rfl (Nat.le_of_ble_eq_true rfl) d_Md_init_121 rfl ?_
  exact hret (15, 5303) _ 124 _ (q7, q16, q23, q31, q39, q46, q53, q60, q68, q76, q84, q92, q101, q110, q119) d_Md_init_124 (trivial) (rfl)
