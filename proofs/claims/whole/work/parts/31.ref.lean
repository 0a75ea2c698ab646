theorem d_Md_begin_0 : decode prog_8_method_2_code 0 = .ok (.aload_n 0, 1) := by decide +kernel
theorem d_Md_begin_1 : decode prog_8_method_2_code 1 = .ok (.getfield 58, 3) := by decide +kernel
theorem d_Md_begin_4 : decode prog_8_method_2_code 4 = .ok (.bipush 20, 2) := by decide +kernel
theorem d_Md_begin_6 : decode prog_8_method_2_code 6 = .ok (.if_icmp .ne 6, 3) := by decide +kernel
theorem d_Md_begin_9 : decode prog_8_method_2_code 9 = .ok (.bipush (-2), 2) := by decide +kernel
theorem d_Md_begin_11 : decode prog_8_method_2_code 11 = .ok (.ireturn, 1) := by decide +kernel
theorem d_Md_begin_12 : decode prog_8_method_2_code 12 = .ok (.aload_n 0, 1) := by decide +kernel
theorem d_Md_begin_13 : decode prog_8_method_2_code 13 = .ok (.getfield 7, 3) := by decide +kernel
theorem d_Md_begin_16 : decode prog_8_method_2_code 16 = .ok (.aload_n 0, 1) := by decide +kernel
theorem d_Md_begin_17 : decode prog_8_method_2_code 17 = .ok (.getfield 58, 3) := by decide +kernel
theorem d_Md_begin_20 : decode prog_8_method_2_code 20 = .ok (.iconst 0, 1) := by decide +kernel
theorem d_Md_begin_21 : decode prog_8_method_2_code 21 = .ok (.iastore, 1) := by decide +kernel
theorem d_Md_begin_22 : decode prog_8_method_2_code 22 = .ok (.aload_n 0, 1) := by decide +kernel
theorem d_Md_begin_23 : decode prog_8_method_2_code 23 = .ok (.dup, 1) := by decide +kernel
theorem d_Md_begin_24 : decode prog_8_method_2_code 24 = .ok (.getfield 58, 3) := by decide +kernel
theorem d_Md_begin_27 : decode prog_8_method_2_code 27 = .ok (.iconst 1, 1) := by decide +kernel
theorem d_Md_begin_28 : decode prog_8_method_2_code 28 = .ok (.iadd, 1) := by decide +kernel
theorem d_Md_begin_29 : decode prog_8_method_2_code 29 = .ok (.putfield 58, 3) := by decide +kernel
theorem d_Md_begin_32 : decode prog_8_method_2_code 32 = .ok (.aload_n 0, 1) := by decide +kernel
theorem d_Md_begin_33 : decode prog_8_method_2_code 33 = .ok (.getfield 58, 3) := by decide +kernel
theorem d_Md_begin_36 : decode prog_8_method_2_code 36 = .ok (.iconst 1, 1) := by decide +kernel
theorem d_Md_begin_37 : decode prog_8_method_2_code 37 = .ok (.isub, 1) := by decide +kernel
theorem d_Md_begin_38 : decode prog_8_method_2_code 38 = .ok (.ireturn, 1) := by decide +kernel
set_option maxRecDepth 20000 in
set_option maxHeartbeats 4000000 in
theorem cD_beginF (E : fk_E) (b0 : Nat) (b1 : Nat) (b2 : Nat) (b3 : Nat) (b4 : Nat) (b5 : Nat) (b6 : Nat) (b7 : Nat) (b8 : Nat) (b9 : Nat) (b10 : Nat) (b11 : Nat) (b12 : Nat) (b13 : Nat) (b14 : Nat) (b15 : Nat) (mt : Nat) (mf : Nat) (my : Nat) (mw : Bool) (len : Nat → Nat) (ht : mt = 20) : fk_C E fy_Md_begin prog_8_method_2_code 1 (some .int) 0 0 0 [.ref b0] [(b0, .inr (6, [.int (nI mt), .ref b1, .ref b2, .ref b3, .ref b4, .ref b5, .ref b6, .ref b7, .ref b8, .ref b9, .int (nI mf), .ref b10, .ref b11, .ref b12, .int (nI my), .int (nI (Bool.toNat mw)), .ref b13, .ref b14, .ref b15])), fk_ai E b1 20 len] (S := Unit) (fun _ => some (.int (-2))) (fun _ => True) (fun _ => [(b0, .inr (6, [.int (nI mt), .ref b1, .ref b2, .ref b3, .ref b4, .ref b5, .ref b6, .ref b7, .ref b8, .ref b9, .int (nI mf), .ref b10, .ref b11, .ref b12, .int (nI my), .int (nI (Bool.toNat mw)), .ref b13, .ref b14, .ref b15])), fk_ai E b1 20 len]) := by
  refine fk_enterI (v := fun _ => (-2)) (by decide) (Nat.le_of_ble_eq_true rfl) (lv0 := [(0, .ref b0)]) rfl ?_
  intro K hini hret
  refine fk_aload_n 0 d_Md_begin_0 rfl ?_
  refine fk_get 0 0 rfl rfl fh_Md (Nat.le_of_ble_eq_true rfl) fw_507 rfl d_Md_begin_1 ?_
  refine fk_bipush (v := nI 20) d_Md_begin_4 (by decide +kernel) ?_
  refine fk_icmp_ne (a := mt) (b := 20) (by omega) (by omega) d_Md_begin_6 rfl (fun h6t => ?_) (fun h6f => ?_)
  · exact absurd ht h6t
  · refine fk_bipush (v := -2) d_Md_begin_9 (by decide +kernel) ?_
    exact hret (0, 0) _ 11 _ () d_Md_begin_11 (trivial) (rfl)
set_option maxRecDepth 20000 in
set_option maxHeartbeats 4000000 in
theorem cD_begin (E : fk_E) (b0 : Nat) (b1 : Nat) (b2 : Nat) (b3 : Nat) (b4 : Nat) (b5 : Nat) (b6 : Nat) (b7 : Nat) (b8 : Nat) (b9 : Nat) (b10 : Nat) (b11 : Nat) (b12 : Nat) (b13 : Nat) (b14 : Nat) (b15 : Nat) (mt : Nat) (mf : Nat) (my : Nat) (mw : Bool) (len : Nat → Nat) (ht : mt < 20) : fk_C E fy_Md_begin prog_8_method_2_code 1 (some .int) 0 0 0 [.ref b0] [(b0, .inr (6, [.int (nI mt), .ref b1, .ref b2, .ref b3, .ref b4, .ref b5, .ref b6, .ref b7, .ref b8, .ref b9, .int (nI mf), .ref b10, .ref b11, .ref b12, .int (nI my), .int (nI (Bool.toNat mw)), .ref b13, .ref b14, .ref b15])), fk_ai E b1 20 len] (S := Unit) (fun _ => some (.int (nI mt))) (fun _ => True) (fun _ => [(b0, .inr (6, [.int (nI (mt + 1)), .ref b1, .ref b2, .ref b3, .ref b4, .ref b5, .ref b6, .ref b7, .ref b8, .ref b9, .int (nI mf), .ref b10, .ref b11, .ref b12, .int (nI my), .int (nI (Bool.toNat mw)), .ref b13, .ref b14, .ref b15])), fk_ai E b1 20 (va_up len mt 0)]) := by
  refine fk_enterI (v := fun _ => (nI mt)) (by decide) (Nat.le_of_ble_eq_true rfl) (lv0 := [(0, .ref b0)]) rfl ?_
  intro K hini hret
  refine fk_aload_n 0 d_Md_begin_0 rfl ?_
  refine fk_get 0 0 rfl rfl fh_Md (Nat.le_of_ble_eq_true rfl) fw_507 rfl d_Md_begin_1 ?_
  refine fk_bipush (v := nI 20) d_Md_begin_4 (by decide +kernel) ?_
  refine fk_icmp_ne (a := mt) (b := 20) (by omega) (by omega) d_Md_begin_6 rfl (fun h6t => ?_) (fun h6f => ?_)
  · refine fk_aload_n 0 d_Md_begin_12 rfl ?_
    refine fk_get 0 1 rfl rfl fh_Md (Nat.le_of_ble_eq_true rfl) fw_508 rfl d_Md_begin_13 ?_
    refine fk_aload_n 0 d_Md_begin_16 rfl ?_
    refine fk_get 0 0 rfl rfl fh_Md (Nat.le_of_ble_eq_true rfl) fw_507 rfl d_Md_begin_17 ?_
    refine fk_iconst (v := nI 0) d_Md_begin_20 (by decide +kernel) ?_
    refine fk_st_ai (i := mt) (x := 0) (w' := [(b0, .inr (6, [.int (nI mt), .ref b1, .ref b2, .ref b3, .ref b4, .ref b5, .ref b6, .ref b7, .ref b8, .ref b9, .int (nI mf), .ref b10, .ref b11, .ref b12, .int (nI my), .int (nI (Bool.toNat mw)), .ref b13, .ref b14, .ref b15])), fk_ai E b1 20 (va_up len mt 0)]) 1 rfl (by omega) (by decide) d_Md_begin_21 rfl ?_
    refine fk_aload_n 0 d_Md_begin_22 rfl ?_
    refine fk_dup d_Md_begin_23 rfl ?_
    refine fk_get 0 0 rfl rfl fh_Md (Nat.le_of_ble_eq_true rfl) fw_507 rfl d_Md_begin_24 ?_
    refine fk_iconst (v := nI 1) d_Md_begin_27 (by decide +kernel) ?_
    refine fk_iadd (a := mt) (b := 1) d_Md_begin_28 ?_
    refine fk_put (w' := [(b0, .inr (6, [.int (nI (mt + 1)), .ref b1, .ref b2, .ref b3, .ref b4, .ref b5, .ref b6, .ref b7, .ref b8, .ref b9, .int (nI mf), .ref b10, .ref b11, .ref b12, .int (nI my), .int (nI (Bool.toNat mw)), .ref b13, .ref b14, .ref b15])), fk_ai E b1 20 (va_up len mt 0)]) 0 0 fT_Md fT_Md_ok fT_Md_nm rfl rfl fh_Md (Nat.le_of_ble_eq_true rfl) fw_507 rfl (fT_Md_ok 0 (Nat.le_of_ble_eq_true rfl)) rfl rfl (Nat.le_of_ble_eq_true rfl) d_Md_begin_29 rfl ?_
    refine fk_aload_n 0 d_Md_begin_32 rfl ?_
    refine fk_get 0 0 rfl rfl fh_Md (Nat.le_of_ble_eq_true rfl) fw_507 rfl d_Md_begin_33 ?_
    refine fk_iconst (v := nI 1) d_Md_begin_36 (by decide +kernel) ?_
    refine fk_isub (a := (mt + 1)) (b := 1) d_Md_begin_37 (by omega) ?_
    refine fk_top (congrArg nI (show (mt + 1) - 1 = mt from by first | omega | simp_all)) ?_
    exact hret (0, 0) _ 38 _ () d_Md_begin_38 (trivial) (rfl)
  · omega
theorem d_Md_event_0 : decode prog_8_method_3_code 0 = .ok (.aload_n 0, 1) := by decide +kernel
theorem d_Md_event_1 : decode prog_8_method_3_code 1 = .ok (.getfield 58, 3) := by decide +kernel
theorem d_Md_event_4 : decode prog_8_method_3_code 4 = .ok (.ifCond .eq 29, 3) := by decide +kernel
theorem d_Md_event_7 : decode prog_8_method_3_code 7 = .ok (.aload_n 0, 1) := by decide +kernel
theorem d_Md_event_8 : decode prog_8_method_3_code 8 = .ok (.getfield 7, 3) := by decide +kernel
theorem d_Md_event_11 : decode prog_8_method_3_code 11 = .ok (.aload_n 0, 1) := by decide +kernel
theorem d_Md_event_12 : decode prog_8_method_3_code 12 = .ok (.getfield 58, 3) := by decide +kernel
theorem d_Md_event_15 : decode prog_8_method_3_code 15 = .ok (.iconst 1, 1) := by decide +kernel
theorem d_Md_event_16 : decode prog_8_method_3_code 16 = .ok (.isub, 1) := by decide +kernel
theorem d_Md_event_17 : decode prog_8_method_3_code 17 = .ok (.iaload, 1) := by decide +kernel
theorem d_Md_event_18 : decode prog_8_method_3_code 18 = .ok (.bipush 15, 2) := by decide +kernel
theorem d_Md_event_20 : decode prog_8_method_3_code 20 = .ok (.if_icmp .eq 13, 3) := by decide +kernel
theorem d_Md_event_23 : decode prog_8_method_3_code 23 = .ok (.iload_n 1, 1) := by decide +kernel
theorem d_Md_event_24 : decode prog_8_method_3_code 24 = .ok (.ifCond .lt 9, 3) := by decide +kernel
theorem d_Md_event_27 : decode prog_8_method_3_code 27 = .ok (.iload_n 1, 1) := by decide +kernel
theorem d_Md_event_28 : decode prog_8_method_3_code 28 = .ok (.bipush 6, 2) := by decide +kernel
theorem d_Md_event_30 : decode prog_8_method_3_code 30 = .ok (.if_icmp .le 5, 3) := by decide +kernel
theorem d_Md_event_33 : decode prog_8_method_3_code 33 = .ok (.iconst 0, 1) := by decide +kernel
theorem d_Md_event_34 : decode prog_8_method_3_code 34 = .ok (.ireturn, 1) := by decide +kernel
theorem d_Md_event_35 : decode prog_8_method_3_code 35 = .ok (.aload_n 0, 1) := by decide +kernel
theorem d_Md_event_36 : decode prog_8_method_3_code 36 = .ok (.getfield 13, 3) := by decide +kernel
theorem d_Md_event_39 : decode prog_8_method_3_code 39 = .ok (.bipush 15, 2) := by decide +kernel
theorem d_Md_event_41 : decode prog_8_method_3_code 41 = .ok (.aload_n 0, 1) := by decide +kernel
theorem d_Md_event_42 : decode prog_8_method_3_code 42 = .ok (.getfield 58, 3) := by decide +kernel
theorem d_Md_event_45 : decode prog_8_method_3_code 45 = .ok (.iconst 1, 1) := by decide +kernel
theorem d_Md_event_46 : decode prog_8_method_3_code 46 = .ok (.isub, 1) := by decide +kernel
theorem d_Md_event_47 : decode prog_8_method_3_code 47 = .ok (.imul, 1) := by decide +kernel
theorem d_Md_event_48 : decode prog_8_method_3_code 48 = .ok (.aload_n 0, 1) := by decide +kernel
theorem d_Md_event_49 : decode prog_8_method_3_code 49 = .ok (.getfield 7, 3) := by decide +kernel
theorem d_Md_event_52 : decode prog_8_method_3_code 52 = .ok (.aload_n 0, 1) := by decide +kernel
theorem d_Md_event_53 : decode prog_8_method_3_code 53 = .ok (.getfield 58, 3) := by decide +kernel
theorem d_Md_event_56 : decode prog_8_method_3_code 56 = .ok (.iconst 1, 1) := by decide +kernel
theorem d_Md_event_57 : decode prog_8_method_3_code 57 = .ok (.isub, 1) := by decide +kernel
theorem d_Md_event_58 : decode prog_8_method_3_code 58 = .ok (.iaload, 1) := by decide +kernel
theorem d_Md_event_59 : decode prog_8_method_3_code 59 = .ok (.iadd, 1) := by decide +kernel
theorem d_Md_event_60 : decode prog_8_method_3_code 60 = .ok (.iload_n 1, 1) := by decide +kernel
theorem d_Md_event_61 : decode prog_8_method_3_code 61 = .ok (.iastore, 1) := by decide +kernel
theorem d_Md_event_62 : decode prog_8_method_3_code 62 = .ok (.aload_n 0, 1) := by decide +kernel
theorem d_Md_event_63 : decode prog_8_method_3_code 63 = .ok (.getfield 7, 3) := by decide +kernel
theorem d_Md_event_66 : decode prog_8_method_3_code 66 = .ok (.aload_n 0, 1) := by decide +kernel
theorem d_Md_event_67 : decode prog_8_method_3_code 67 = .ok (.getfield 58, 3) := by decide +kernel
theorem d_Md_event_70 : decode prog_8_method_3_code 70 = .ok (.iconst 1, 1) := by decide +kernel
theorem d_Md_event_71 : decode prog_8_method_3_code 71 = .ok (.isub, 1) := by decide +kernel
theorem d_Md_event_72 : decode prog_8_method_3_code 72 = .ok (.dup2, 1) := by decide +kernel
theorem d_Md_event_73 : decode prog_8_method_3_code 73 = .ok (.iaload, 1) := by decide +kernel
theorem d_Md_event_74 : decode prog_8_method_3_code 74 = .ok (.iconst 1, 1) := by decide +kernel
theorem d_Md_event_75 : decode prog_8_method_3_code 75 = .ok (.iadd, 1) := by decide +kernel
theorem d_Md_event_76 : decode prog_8_method_3_code 76 = .ok (.iastore, 1) := by decide +kernel
theorem d_Md_event_77 : decode prog_8_method_3_code 77 = .ok (.iconst 1, 1) := by decide +kernel
theorem d_Md_event_78 : decode prog_8_method_3_code 78 = .ok (.ireturn, 1) := by decide +kernel
set_option maxRecDepth 20000 in
set_option maxHeartbeats 4000000 in
theorem cD_event (E : fk_E) (b0 : Nat) (b1 : Nat) (b2 : Nat) (b3 : Nat) (b4 : Nat) (b5 : Nat) (b6 : Nat) (b7 : Nat) (b8 : Nat) (b9 : Nat) (b10 : Nat) (b11 : Nat) (b12 : Nat) (b13 : Nat) (b14 : Nat) (b15 : Nat) (mt : Nat) (mf : Nat) (my : Nat) (mw : Bool) (len : Nat → Nat) (ev : Nat → Nat) (a : Nat) (ha : a < 7) (h0 : 0 < mt) (ht : mt ≤ 20) (hl : len (mt - 1) < 15) : fk_C E fy_Md_event prog_8_method_3_code 2 (some .boolean) 0 0 0 [.ref b0, .int (nI a)] [(b0, .inr (6, [.int (nI mt), .ref b1, .ref b2, .ref b3, .ref b4, .ref b5, .ref b6, .ref b7, .ref b8, .ref b9, .int (nI mf), .ref b10, .ref b11, .ref b12, .int (nI my), .int (nI (Bool.toNat mw)), .ref b13, .ref b14, .ref b15])), fk_ai E b1 20 len, fk_ai E b2 300 ev] (S := Unit) (fun _ => some (.int (nI (Bool.toNat true)))) (fun _ => True) (fun _ => [(b0, .inr (6, [.int (nI mt), .ref b1, .ref b2, .ref b3, .ref b4, .ref b5, .ref b6, .ref b7, .ref b8, .ref b9, .int (nI mf), .ref b10, .ref b11, .ref b12, .int (nI my), .int (nI (Bool.toNat mw)), .ref b13, .ref b14, .ref b15])), fk_ai E b1 20 (va_up len (mt - 1) (len (mt - 1) + 1)), fk_ai E b2 300 (va_up ev (15 * (mt - 1) + len (mt - 1)) a)]) := by
  refine fk_enterZ (v := fun _ => true) (by decide) (Nat.le_of_ble_eq_true rfl) (lv0 := [(0, .ref b0), (1, .int (nI a))]) rfl ?_
  intro K hini hret
  refine fk_aload_n 0 d_Md_event_0 rfl ?_
  refine fk_get 0 0 rfl rfl fh_Md (Nat.le_of_ble_eq_true rfl) fw_507 rfl d_Md_event_1 ?_
  refine fk_if_eq (a := mt) (by omega) d_Md_event_4 rfl (fun h4t => ?_) (fun h4f => ?_)
  · omega
  · refine fk_aload_n 0 d_Md_event_7 rfl ?_
    refine fk_get 0 1 rfl rfl fh_Md (Nat.le_of_ble_eq_true rfl) fw_508 rfl d_Md_event_8 ?_
    refine fk_aload_n 0 d_Md_event_11 rfl ?_
    refine fk_get 0 0 rfl rfl fh_Md (Nat.le_of_ble_eq_true rfl) fw_507 rfl d_Md_event_12 ?_
    refine fk_iconst (v := nI 1) d_Md_event_15 (by decide +kernel) ?_
    refine fk_isub (a := mt) (b := 1) d_Md_event_16 (by omega) ?_
    refine fk_ld_ai (i := (mt - 1)) 1 rfl (by omega) (by decide) d_Md_event_17 ?_
    refine fk_bipush (v := nI 15) d_Md_event_18 (by decide +kernel) ?_
    refine fk_icmp_eq (a := (len (mt - 1))) (b := 15) (by omega) (by omega) d_Md_event_20 rfl (fun h20t => ?_) (fun h20f => ?_)
    · omega
    · refine fk_iload_n 1 d_Md_event_23 rfl ?_
      refine fk_if_lt (by omega) d_Md_event_24 rfl ?_
      refine fk_iload_n 1 d_Md_event_27 rfl ?_
      refine fk_bipush (v := nI 6) d_Md_event_28 (by decide +kernel) ?_
      refine fk_icmp_le (a := a) (b := 6) (by omega) (by omega) d_Md_event_30 rfl (fun h30t => ?_) (fun h30f => ?_)
      · refine fk_aload_n 0 d_Md_event_35 rfl ?_
        refine fk_get 0 2 rfl rfl fh_Md (Nat.le_of_ble_eq_true rfl) fw_509 rfl d_Md_event_36 ?_
        refine fk_bipush (v := nI 15) d_Md_event_39 (by decide +kernel) ?_
        refine fk_aload_n 0 d_Md_event_41 rfl ?_
        refine fk_get 0 0 rfl rfl fh_Md (Nat.le_of_ble_eq_true rfl) fw_507 rfl d_Md_event_42 ?_
        refine fk_iconst (v := nI 1) d_Md_event_45 (by decide +kernel) ?_
        refine fk_isub (a := mt) (b := 1) d_Md_event_46 (by omega) ?_
        refine fk_imul (a := 15) (b := (mt - 1)) d_Md_event_47 ?_
        refine fk_aload_n 0 d_Md_event_48 rfl ?_
        refine fk_get 0 1 rfl rfl fh_Md (Nat.le_of_ble_eq_true rfl) fw_508 rfl d_Md_event_49 ?_
        refine fk_aload_n 0 d_Md_event_52 rfl ?_
        refine fk_get 0 0 rfl rfl fh_Md (Nat.le_of_ble_eq_true rfl) fw_507 rfl d_Md_event_53 ?_
        refine fk_iconst (v := nI 1) d_Md_event_56 (by decide +kernel) ?_
        refine fk_isub (a := mt) (b := 1) d_Md_event_57 (by omega) ?_
        refine fk_ld_ai (i := (mt - 1)) 1 rfl (by omega) (by decide) d_Md_event_58 ?_
        refine fk_iadd (a := (15 * (mt - 1))) (b := (len (mt - 1))) d_Md_event_59 ?_
        refine fk_iload_n 1 d_Md_event_60 rfl ?_
        refine fk_st_ai (i := ((15 * (mt - 1)) + (len (mt - 1)))) (x := a) (w' := [(b0, .inr (6, [.int (nI mt), .ref b1, .ref b2, .ref b3, .ref b4, .ref b5, .ref b6, .ref b7, .ref b8, .ref b9, .int (nI mf), .ref b10, .ref b11, .ref b12, .int (nI my), .int (nI (Bool.toNat mw)), .ref b13, .ref b14, .ref b15])), fk_ai E b1 20 len, fk_ai E b2 300 (va_up ev ((15 * (mt - 1)) + (len (mt - 1))) a)]) 2 rfl (by omega) (by decide) d_Md_event_61 rfl ?_
        refine fk_aload_n 0 d_Md_event_62 rfl ?_
        refine fk_get 0 1 rfl rfl fh_Md (Nat.le_of_ble_eq_true rfl) fw_508 rfl d_Md_event_63 ?_
        refine fk_aload_n 0 d_Md_event_66 rfl ?_
        refine fk_get 0 0 rfl rfl fh_Md (Nat.le_of_ble_eq_true rfl) fw_507 rfl d_Md_event_67 ?_
        refine fk_iconst (v := nI 1) d_Md_event_70 (by decide +kernel) ?_
        refine fk_isub (a := mt) (b := 1) d_Md_event_71 (by omega) ?_
        refine fk_dup2 d_Md_event_72 rfl rfl ?_
        refine fk_ld_ai (i := (mt - 1)) 1 rfl (by omega) (by decide) d_Md_event_73 ?_
        refine fk_iconst (v := nI 1) d_Md_event_74 (by decide +kernel) ?_
        refine fk_iadd (a := (len (mt - 1))) (b := 1) d_Md_event_75 ?_
        refine fk_st_ai (i := (mt - 1)) (x := ((len (mt - 1)) + 1)) (w' := [(b0, .inr (6, [.int (nI mt), .ref b1, .ref b2, .ref b3, .ref b4, .ref b5, .ref b6, .ref b7, .ref b8, .ref b9, .int (nI mf), .ref b10, .ref b11, .ref b12, .int (nI my), .int (nI (Bool.toNat mw)), .ref b13, .ref b14, .ref b15])), fk_ai E b1 20 (va_up len (mt - 1) ((len (mt - 1)) + 1)), fk_ai E b2 300 (va_up ev ((15 * (mt - 1)) + (len (mt - 1))) a)]) 1 rfl (by omega) (by decide) d_Md_event_76 rfl ?_
        refine fk_iconst (v := nI 1) d_Md_event_77 (by decide +kernel) ?_
        refine fk_top (fn_rt (b := true) (by first | assumption | (simp; omega) | simp_all | (simp_all; omega))) ?_
        exact hret (0, 0) _ 78 _ () d_Md_event_78 (trivial) (rfl)
      · omega
set_option maxRecDepth 20000 in
set_option maxHeartbeats 4000000 in
theorem cD_eventO (E : fk_E) (b0 : Nat) (b1 : Nat) (b2 : Nat) (b3 : Nat) (b4 : Nat) (b5 : Nat) (b6 : Nat) (b7 : Nat) (b8 : Nat) (b9 : Nat) (b10 : Nat) (b11 : Nat) (b12 : Nat) (b13 : Nat) (b14 : Nat) (b15 : Nat) (mt : Nat) (mf : Nat) (my : Nat) (mw : Bool) (len : Nat → Nat) (ev : Nat → Nat) (a : Nat) (h : 7 ≤ a ∨ mt = 0 ∨ len (mt - 1) = 15) (ha : a < 2 ^ 31) (ht : mt ≤ 20) (hl : ∀ t, t < 20 → len t ≤ 15) : fk_C E fy_Md_event prog_8_method_3_code 2 (some .boolean) 0 0 0 [.ref b0, .int (nI a)] [(b0, .inr (6, [.int (nI mt), .ref b1, .ref b2, .ref b3, .ref b4, .ref b5, .ref b6, .ref b7, .ref b8, .ref b9, .int (nI mf), .ref b10, .ref b11, .ref b12, .int (nI my), .int (nI (Bool.toNat mw)), .ref b13, .ref b14, .ref b15])), fk_ai E b1 20 len, fk_ai E b2 300 ev] (S := Unit) (fun _ => some (.int (nI (Bool.toNat false)))) (fun _ => True) (fun _ => [(b0, .inr (6, [.int (nI mt), .ref b1, .ref b2, .ref b3, .ref b4, .ref b5, .ref b6, .ref b7, .ref b8, .ref b9, .int (nI mf), .ref b10, .ref b11, .ref b12, .int (nI my), .int (nI (Bool.toNat mw)), .ref b13, .ref b14, .ref b15])), fk_ai E b1 20 len, fk_ai E b2 300 ev]) := by
  refine fk_enterZ (v := fun _ => false) (by decide) (Nat.le_of_ble_eq_true rfl) (lv0 := [(0, .ref b0), (1, .int (nI a))]) rfl ?_
  intro K hini hret
  refine fk_aload_n 0 d_Md_event_0 rfl ?_
  refine fk_get 0 0 rfl rfl fh_Md (Nat.le_of_ble_eq_true rfl) fw_507 rfl d_Md_event_1 ?_
  refine fk_if_eq (a := mt) (by omega) d_Md_event_4 rfl (fun h4t => ?_) (fun h4f => ?_)
  · refine fk_iconst (v := nI 0) d_Md_event_33 (by decide +kernel) ?_
    refine fk_top (fn_rf (b := false) (by first | assumption | (simp; omega) | simp_all | (simp_all; omega))) ?_
    exact hret (0, 0) _ 34 _ () d_Md_event_34 (trivial) (rfl)
  · have g := hl (mt - 1) (by omega)
    refine fk_aload_n 0 d_Md_event_7 rfl ?_
    refine fk_get 0 1 rfl rfl fh_Md (Nat.le_of_ble_eq_true rfl) fw_508 rfl d_Md_event_8 ?_
    refine fk_aload_n 0 d_Md_event_11 rfl ?_
    refine fk_get 0 0 rfl rfl fh_Md (Nat.le_of_ble_eq_true rfl) fw_507 rfl d_Md_event_12 ?_
    refine fk_iconst (v := nI 1) d_Md_event_15 (by decide +kernel) ?_
    refine fk_isub (a := mt) (b := 1) d_Md_event_16 (by omega) ?_
    refine fk_ld_ai (i := (mt - 1)) 1 rfl (by omega) (by decide) d_Md_event_17 ?_
    refine fk_bipush (v := nI 15) d_Md_event_18 (by decide +kernel) ?_
    refine fk_icmp_eq (a := (len (mt - 1))) (b := 15) (by omega) (by omega) d_Md_event_20 rfl (fun h20t => ?_) (fun h20f => ?_)
    · refine fk_iconst (v := nI 0) d_Md_event_33 (by decide +kernel) ?_
      refine fk_top (fn_rf (b := false) (by first | assumption | (simp; omega) | simp_all | (simp_all; omega))) ?_
      exact hret (0, 0) _ 34 _ () d_Md_event_34 (trivial) (rfl)
    · refine fk_iload_n 1 d_Md_event_23 rfl ?_
      refine fk_if_lt (by omega) d_Md_event_24 rfl ?_
      refine fk_iload_n 1 d_Md_event_27 rfl ?_
      refine fk_bipush (v := nI 6) d_Md_event_28 (by decide +kernel) ?_
      refine fk_icmp_le (a := a) (b := 6) (by omega) (by omega) d_Md_event_30 rfl (fun h30t => ?_) (fun h30f => ?_)
      · omega
      · refine fk_iconst (v := nI 0) d_Md_event_33 (by decide +kernel) ?_
        refine fk_top (fn_rf (b := false) (by first | assumption | (simp; omega) | simp_all | (simp_all; omega))) ?_
        exact hret (0, 0) _ 34 _ () d_Md_event_34 (trivial) (rfl)
set_option maxRecDepth 20000 in
set_option maxHeartbeats 4000000 in
theorem cD_eventM (E : fk_E) (b0 : Nat) (b1 : Nat) (b2 : Nat) (b3 : Nat) (b4 : Nat) (b5 : Nat) (b6 : Nat) (b7 : Nat) (b8 : Nat) (b9 : Nat) (b10 : Nat) (b11 : Nat) (b12 : Nat) (b13 : Nat) (b14 : Nat) (b15 : Nat) (mt : Nat) (mf : Nat) (my : Nat) (mw : Bool) (len : Nat → Nat) (ev : Nat → Nat) (x : Int32) (hx : x < 0) (ht : mt ≤ 20) (hl : ∀ t, t < 20 → len t ≤ 15) : fk_C E fy_Md_event prog_8_method_3_code 2 (some .boolean) 0 0 0 [.ref b0, .int x] [(b0, .inr (6, [.int (nI mt), .ref b1, .ref b2, .ref b3, .ref b4, .ref b5, .ref b6, .ref b7, .ref b8, .ref b9, .int (nI mf), .ref b10, .ref b11, .ref b12, .int (nI my), .int (nI (Bool.toNat mw)), .ref b13, .ref b14, .ref b15])), fk_ai E b1 20 len, fk_ai E b2 300 ev] (S := Unit) (fun _ => some (.int (nI (Bool.toNat false)))) (fun _ => True) (fun _ => [(b0, .inr (6, [.int (nI mt), .ref b1, .ref b2, .ref b3, .ref b4, .ref b5, .ref b6, .ref b7, .ref b8, .ref b9, .int (nI mf), .ref b10, .ref b11, .ref b12, .int (nI my), .int (nI (Bool.toNat mw)), .ref b13, .ref b14, .ref b15])), fk_ai E b1 20 len, fk_ai E b2 300 ev]) := by
  refine fk_enterZ (v := fun _ => false) (by decide) (Nat.le_of_ble_eq_true rfl) (lv0 := [(0, .ref b0), (1, .int x)]) rfl ?_
  intro K hini hret
  refine fk_aload_n 0 d_Md_event_0 rfl ?_
  refine fk_get 0 0 rfl rfl fh_Md (Nat.le_of_ble_eq_true rfl) fw_507 rfl d_Md_event_1 ?_
  refine fk_if_eq (a := mt) (by omega) d_Md_event_4 rfl (fun h4t => ?_) (fun h4f => ?_)
  · refine fk_iconst (v := nI 0) d_Md_event_33 (by decide +kernel) ?_
    refine fk_top (fn_rf (b := false) (by first | assumption | (simp; omega) | simp_all | (simp_all; omega))) ?_
    exact hret (0, 0) _ 34 _ () d_Md_event_34 (trivial) (rfl)
  · have g := hl (mt - 1) (by omega)
    refine fk_aload_n 0 d_Md_event_7 rfl ?_
    refine fk_get 0 1 rfl rfl fh_Md (Nat.le_of_ble_eq_true rfl) fw_508 rfl d_Md_event_8 ?_
    refine fk_aload_n 0 d_Md_event_11 rfl ?_
    refine fk_get 0 0 rfl rfl fh_Md (Nat.le_of_ble_eq_true rfl) fw_507 rfl d_Md_event_12 ?_
    refine fk_iconst (v := nI 1) d_Md_event_15 (by decide +kernel) ?_
    refine fk_isub (a := mt) (b := 1) d_Md_event_16 (by omega) ?_
    refine fk_ld_ai (i := (mt - 1)) 1 rfl (by omega) (by decide) d_Md_event_17 ?_
    refine fk_bipush (v := nI 15) d_Md_event_18 (by decide +kernel) ?_
    refine fk_icmp_eq (a := (len (mt - 1))) (b := 15) (by omega) (by omega) d_Md_event_20 rfl (fun h20t => ?_) (fun h20f => ?_)
    · refine fk_iconst (v := nI 0) d_Md_event_33 (by decide +kernel) ?_
      refine fk_top (fn_rf (b := false) (by first | assumption | (simp; omega) | simp_all | (simp_all; omega))) ?_
      exact hret (0, 0) _ 34 _ () d_Md_event_34 (trivial) (rfl)
    · refine fk_iload_n 1 d_Md_event_23 rfl ?_
      refine fk_if_ltR d_Md_event_24 rfl (fun h24t => ?_) (fun h24f => ?_)
      · refine fk_iconst (v := nI 0) d_Md_event_33 (by decide +kernel) ?_
        refine fk_top (fn_rf (b := false) (by first | assumption | (simp; omega) | simp_all | (simp_all; omega))) ?_
        exact hret (0, 0) _ 34 _ () d_Md_event_34 (trivial) (rfl)
      · exact absurd hx h24f
theorem d_Md_clear_0 : decode prog_8_method_4_code 0 = .ok (.aload_n 0, 1) := by decide +kernel
theorem d_Md_clear_1 : decode prog_8_method_4_code 1 = .ok (.iconst 0, 1) := by decide +kernel
theorem d_Md_clear_2 : decode prog_8_method_4_code 2 = .ok (.putfield 58, 3) := by decide +kernel
theorem d_Md_clear_5 : decode prog_8_method_4_code 5 = .ok (.return_, 1) := by decide +kernel
set_option maxRecDepth 20000 in
set_option maxHeartbeats 4000000 in
theorem cD_clear (E : fk_E) (b0 : Nat) (b1 : Nat) (b2 : Nat) (b3 : Nat) (b4 : Nat) (b5 : Nat) (b6 : Nat) (b7 : Nat) (b8 : Nat) (b9 : Nat) (b10 : Nat) (b11 : Nat) (b12 : Nat) (b13 : Nat) (b14 : Nat) (b15 : Nat) (mt : Nat) (mf : Nat) (my : Nat) (mw : Bool)  : fk_C E fy_Md_clear prog_8_method_4_code 1 none 0 0 0 [.ref b0] [(b0, .inr (6, [.int (nI mt), .ref b1, .ref b2, .ref b3, .ref b4, .ref b5, .ref b6, .ref b7, .ref b8, .ref b9, .int (nI mf), .ref b10, .ref b11, .ref b12, .int (nI my), .int (nI (Bool.toNat mw)), .ref b13, .ref b14, .ref b15]))] (S := Unit) (fun _ => none) (fun _ => True) (fun _ => [(b0, .inr (6, [.int (nI 0), .ref b1, .ref b2, .ref b3, .ref b4, .ref b5, .ref b6, .ref b7, .ref b8, .ref b9, .int (nI mf), .ref b10, .ref b11, .ref b12, .int (nI my), .int (nI (Bool.toNat mw)), .ref b13, .ref b14, .ref b15]))]) := by
  refine fk_enterV (by decide) (Nat.le_of_ble_eq_true rfl) (lv0 := [(0, .ref b0)]) rfl ?_
  intro K hini hret
  refine fk_aload_n 0 d_Md_clear_0 rfl ?_
  refine fk_iconst (v := nI 0) d_Md_clear_1 (by decide +kernel) ?_
  refine fk_put (w' := [(b0, .inr (6, [.int (nI 0), .ref b1, .ref b2, .ref b3, .ref b4, .ref b5, .ref b6, .ref b7, .ref b8, .ref b9, .int (nI mf), .ref b10, .ref b11, .ref b12, .int (nI my), .int (nI (Bool.toNat mw)), .ref b13, .ref b14, .ref b15]))]) 0 0 fT_Md fT_Md_ok fT_Md_nm rfl rfl fh_Md (Nat.le_of_ble_eq_true rfl) fw_507 rfl (fT_Md_ok 0 (Nat.le_of_ble_eq_true rfl)) rfl rfl (Nat.le_of_ble_eq_true rfl) d_Md_clear_2 rfl ?_
  exact hret (0, 0) _ 5 _ () d_Md_clear_5 (trivial) (rfl)
theorem d_Md_length_0 : decode prog_8_method_5_code 0 = .ok (.iload_n 1, 1) := by decide +kernel
theorem d_Md_length_1 : decode prog_8_method_5_code 1 = .ok (.ifCond .lt 11, 3) := by decide +kernel
theorem d_Md_length_4 : decode prog_8_method_5_code 4 = .ok (.iload_n 1, 1) := by decide +kernel
theorem d_Md_length_5 : decode prog_8_method_5_code 5 = .ok (.aload_n 0, 1) := by decide +kernel
theorem d_Md_length_6 : decode prog_8_method_5_code 6 = .ok (.getfield 58, 3) := by decide +kernel
theorem d_Md_length_9 : decode prog_8_method_5_code 9 = .ok (.if_icmp .lt 7, 3) := by decide +kernel
theorem d_Md_length_12 : decode prog_8_method_5_code 12 = .ok (.iconst (-1), 1) := by decide +kernel
theorem d_Md_length_13 : decode prog_8_method_5_code 13 = .ok (.goto 9, 3) := by decide +kernel
theorem d_Md_length_16 : decode prog_8_method_5_code 16 = .ok (.aload_n 0, 1) := by decide +kernel
theorem d_Md_length_17 : decode prog_8_method_5_code 17 = .ok (.getfield 7, 3) := by decide +kernel
theorem d_Md_length_20 : decode prog_8_method_5_code 20 = .ok (.iload_n 1, 1) := by decide +kernel
theorem d_Md_length_21 : decode prog_8_method_5_code 21 = .ok (.iaload, 1) := by decide +kernel
theorem d_Md_length_22 : decode prog_8_method_5_code 22 = .ok (.ireturn, 1) := by decide +kernel
set_option maxRecDepth 20000 in
set_option maxHeartbeats 4000000 in
theorem cD_length (E : fk_E) (b0 : Nat) (b1 : Nat) (b2 : Nat) (b3 : Nat) (b4 : Nat) (b5 : Nat) (b6 : Nat) (b7 : Nat) (b8 : Nat) (b9 : Nat) (b10 : Nat) (b11 : Nat) (b12 : Nat) (b13 : Nat) (b14 : Nat) (b15 : Nat) (mt : Nat) (mf : Nat) (my : Nat) (mw : Bool) (len : Nat → Nat) (t : Nat) (ht : mt ≤ 20) (h1 : t < mt) : fk_C E fy_Md_length prog_8_method_5_code 2 (some .int) 0 0 0 [.ref b0, .int (nI t)] [(b0, .inr (6, [.int (nI mt), .ref b1, .ref b2, .ref b3, .ref b4, .ref b5, .ref b6, .ref b7, .ref b8, .ref b9, .int (nI mf), .ref b10, .ref b11, .ref b12, .int (nI my), .int (nI (Bool.toNat mw)), .ref b13, .ref b14, .ref b15])), fk_ai E b1 20 len] (S := Unit) (fun _ => some (.int (nI (len t)))) (fun _ => True) (fun _ => [(b0, .inr (6, [.int (nI mt), .ref b1, .ref b2, .ref b3, .ref b4, .ref b5, .ref b6, .ref b7, .ref b8, .ref b9, .int (nI mf), .ref b10, .ref b11, .ref b12, .int (nI my), .int (nI (Bool.toNat mw)), .ref b13, .ref b14, .ref b15])), fk_ai E b1 20 len]) := by
  refine fk_enterI (v := fun _ => (nI (len t))) (by decide) (Nat.le_of_ble_eq_true rfl) (lv0 := [(0, .ref b0), (1, .int (nI t))]) rfl ?_
  intro K hini hret
  refine fk_iload_n 1 d_Md_length_0 rfl ?_
  refine fk_if_lt (by omega) d_Md_length_1 rfl ?_
  refine fk_iload_n 1 d_Md_length_4 rfl ?_
  refine fk_aload_n 0 d_Md_length_5 rfl ?_
  refine fk_get 0 0 rfl rfl fh_Md (Nat.le_of_ble_eq_true rfl) fw_507 rfl d_Md_length_6 ?_
  refine fk_icmp_lt (a := t) (b := mt) (by omega) (by omega) d_Md_length_9 rfl (fun h9t => ?_) (fun h9f => ?_)
  · refine fk_aload_n 0 d_Md_length_16 rfl ?_
    refine fk_get 0 1 rfl rfl fh_Md (Nat.le_of_ble_eq_true rfl) fw_508 rfl d_Md_length_17 ?_
    refine fk_iload_n 1 d_Md_length_20 rfl ?_
    refine fk_ld_ai (i := t) 1 rfl (by omega) (by decide) d_Md_length_21 ?_
    exact hret (0, 0) _ 22 _ () d_Md_length_22 (trivial) (rfl)
  · omega
set_option maxRecDepth 20000 in
set_option maxHeartbeats 4000000 in
theorem cD_lengthO (E : fk_E) (b0 : Nat) (b1 : Nat) (b2 : Nat) (b3 : Nat) (b4 : Nat) (b5 : Nat) (b6 : Nat) (b7 : Nat) (b8 : Nat) (b9 : Nat) (b10 : Nat) (b11 : Nat) (b12 : Nat) (b13 : Nat) (b14 : Nat) (b15 : Nat) (mt : Nat) (mf : Nat) (my : Nat) (mw : Bool) (len : Nat → Nat) (t : Nat) (ht : mt ≤ 20) (h1 : mt ≤ t) (h2 : t < 2 ^ 31) : fk_C E fy_Md_length prog_8_method_5_code 2 (some .int) 0 0 0 [.ref b0, .int (nI t)] [(b0, .inr (6, [.int (nI mt), .ref b1, .ref b2, .ref b3, .ref b4, .ref b5, .ref b6, .ref b7, .ref b8, .ref b9, .int (nI mf), .ref b10, .ref b11, .ref b12, .int (nI my), .int (nI (Bool.toNat mw)), .ref b13, .ref b14, .ref b15])), fk_ai E b1 20 len] (S := Unit) (fun _ => some (.int (nI 0 - 1))) (fun _ => True) (fun _ => [(b0, .inr (6, [.int (nI mt), .ref b1, .ref b2, .ref b3, .ref b4, .ref b5, .ref b6, .ref b7, .ref b8, .ref b9, .int (nI mf), .ref b10, .ref b11, .ref b12, .int (nI my), .int (nI (Bool.toNat mw)), .ref b13, .ref b14, .ref b15])), fk_ai E b1 20 len]) := by
  refine fk_enterI (v := fun _ => (nI 0 - 1)) (by decide) (Nat.le_of_ble_eq_true rfl) (lv0 := [(0, .ref b0), (1, .int (nI t))]) rfl ?_
  intro K hini hret
  refine fk_iload_n 1 d_Md_length_0 rfl ?_
  refine fk_if_lt (by omega) d_Md_length_1 rfl ?_
  refine fk_iload_n 1 d_Md_length_4 rfl ?_
  refine fk_aload_n 0 d_Md_length_5 rfl ?_
  refine fk_get 0 0 rfl rfl fh_Md (Nat.le_of_ble_eq_true rfl) fw_507 rfl d_Md_length_6 ?_
  refine fk_icmp_lt (a := t) (b := mt) (by omega) (by omega) d_Md_length_9 rfl (fun h9t => ?_) (fun h9f => ?_)
  · omega
  · refine fk_iconst (v := nI 0 - 1) d_Md_length_12 (by decide +kernel) ?_
    refine fk_goto d_Md_length_13 rfl ?_
    exact hret (0, 0) _ 22 _ () d_Md_length_22 (trivial) (rfl)
set_option maxRecDepth 20000 in
set_option maxHeartbeats 4000000 in
theorem cD_lengthM (E : fk_E) (b0 : Nat) (b1 : Nat) (b2 : Nat) (b3 : Nat) (b4 : Nat) (b5 : Nat) (b6 : Nat) (b7 : Nat) (b8 : Nat) (b9 : Nat) (b10 : Nat) (b11 : Nat) (b12 : Nat) (b13 : Nat) (b14 : Nat) (b15 : Nat) (mt : Nat) (mf : Nat) (my : Nat) (mw : Bool) (len : Nat → Nat) (x : Int32) (hx : x < 0) : fk_C E fy_Md_length prog_8_method_5_code 2 (some .int) 0 0 0 [.ref b0, .int x] [(b0, .inr (6, [.int (nI mt), .ref b1, .ref b2, .ref b3, .ref b4, .ref b5, .ref b6, .ref b7, .ref b8, .ref b9, .int (nI mf), .ref b10, .ref b11, .ref b12, .int (nI my), .int (nI (Bool.toNat mw)), .ref b13, .ref b14, .ref b15])), fk_ai E b1 20 len] (S := Unit) (fun _ => some (.int (nI 0 - 1))) (fun _ => True) (fun _ => [(b0, .inr (6, [.int (nI mt), .ref b1, .ref b2, .ref b3, .ref b4, .ref b5, .ref b6, .ref b7, .ref b8, .ref b9, .int (nI mf), .ref b10, .ref b11, .ref b12, .int (nI my), .int (nI (Bool.toNat mw)), .ref b13, .ref b14, .ref b15])), fk_ai E b1 20 len]) := by
  refine fk_enterI (v := fun _ => (nI 0 - 1)) (by decide) (Nat.le_of_ble_eq_true rfl) (lv0 := [(0, .ref b0), (1, .int x)]) rfl ?_
  intro K hini hret
  refine fk_iload_n 1 d_Md_length_0 rfl ?_
  refine fk_if_ltR d_Md_length_1 rfl (fun h1t => ?_) (fun h1f => ?_)
  · refine fk_iconst (v := nI 0 - 1) d_Md_length_12 (by decide +kernel) ?_
    refine fk_goto d_Md_length_13 rfl ?_
    exact hret (0, 0) _ 22 _ () d_Md_length_22 (trivial) (rfl)
  · exact absurd hx h1f
theorem d_Md_at_0 : decode prog_8_method_6_code 0 = .ok (.iload_n 1, 1) := by decide +kernel
theorem d_Md_at_1 : decode prog_8_method_6_code 1 = .ok (.ifCond .lt 25, 3) := by decide +kernel
theorem d_Md_at_4 : decode prog_8_method_6_code 4 = .ok (.iload_n 1, 1) := by decide +kernel
theorem d_Md_at_5 : decode prog_8_method_6_code 5 = .ok (.aload_n 0, 1) := by decide +kernel
theorem d_Md_at_6 : decode prog_8_method_6_code 6 = .ok (.getfield 58, 3) := by decide +kernel
theorem d_Md_at_9 : decode prog_8_method_6_code 9 = .ok (.if_icmp .ge 17, 3) := by decide +kernel
theorem d_Md_at_12 : decode prog_8_method_6_code 12 = .ok (.iload_n 2, 1) := by decide +kernel
theorem d_Md_at_13 : decode prog_8_method_6_code 13 = .ok (.ifCond .lt 13, 3) := by decide +kernel
theorem d_Md_at_16 : decode prog_8_method_6_code 16 = .ok (.iload_n 2, 1) := by decide +kernel
theorem d_Md_at_17 : decode prog_8_method_6_code 17 = .ok (.aload_n 0, 1) := by decide +kernel
theorem d_Md_at_18 : decode prog_8_method_6_code 18 = .ok (.getfield 7, 3) := by decide +kernel
theorem d_Md_at_21 : decode prog_8_method_6_code 21 = .ok (.iload_n 1, 1) := by decide +kernel
theorem d_Md_at_22 : decode prog_8_method_6_code 22 = .ok (.iaload, 1) := by decide +kernel
theorem d_Md_at_23 : decode prog_8_method_6_code 23 = .ok (.if_icmp .lt 7, 3) := by decide +kernel
theorem d_Md_at_26 : decode prog_8_method_6_code 26 = .ok (.iconst (-1), 1) := by decide +kernel
theorem d_Md_at_27 : decode prog_8_method_6_code 27 = .ok (.goto 14, 3) := by decide +kernel
theorem d_Md_at_30 : decode prog_8_method_6_code 30 = .ok (.aload_n 0, 1) := by decide +kernel
theorem d_Md_at_31 : decode prog_8_method_6_code 31 = .ok (.getfield 13, 3) := by decide +kernel
theorem d_Md_at_34 : decode prog_8_method_6_code 34 = .ok (.bipush 15, 2) := by decide +kernel
theorem d_Md_at_36 : decode prog_8_method_6_code 36 = .ok (.iload_n 1, 1) := by decide +kernel
theorem d_Md_at_37 : decode prog_8_method_6_code 37 = .ok (.imul, 1) := by decide +kernel
theorem d_Md_at_38 : decode prog_8_method_6_code 38 = .ok (.iload_n 2, 1) := by decide +kernel
theorem d_Md_at_39 : decode prog_8_method_6_code 39 = .ok (.iadd, 1) := by decide +kernel
theorem d_Md_at_40 : decode prog_8_method_6_code 40 = .ok (.iaload, 1) := by decide +kernel
theorem d_Md_at_41 : decode prog_8_method_6_code 41 = .ok (.ireturn, 1) := by decide +kernel
set_option maxRecDepth 20000 in
set_option maxHeartbeats 4000000 in
theorem cD_at (E : fk_E) (b0 : Nat) (b1 : Nat) (b2 : Nat) (b3 : Nat) (b4 : Nat) (b5 : Nat) (b6 : Nat) (b7 : Nat) (b8 : Nat) (b9 : Nat) (b10 : Nat) (b11 : Nat) (b12 : Nat) (b13 : Nat) (b14 : Nat) (b15 : Nat) (mt : Nat) (mf : Nat) (my : Nat) (mw : Bool) (len : Nat → Nat) (ev : Nat → Nat) (t : Nat) (i : Nat) (ht : mt ≤ 20) (h3 : ∀ k, k < 20 → len k ≤ 15) (h1 : t < mt) (h2 : i < len t) : fk_C E fy_Md_at prog_8_method_6_code 3 (some .int) 0 0 0 [.ref b0, .int (nI t), .int (nI i)] [(b0, .inr (6, [.int (nI mt), .ref b1, .ref b2, .ref b3, .ref b4, .ref b5, .ref b6, .ref b7, .ref b8, .ref b9, .int (nI mf), .ref b10, .ref b11, .ref b12, .int (nI my), .int (nI (Bool.toNat mw)), .ref b13, .ref b14, .ref b15])), fk_ai E b1 20 len, fk_ai E b2 300 ev] (S := Unit) (fun _ => some (.int (nI (ev (15 * t + i))))) (fun _ => True) (fun _ => [(b0, .inr (6, [.int (nI mt), .ref b1, .ref b2, .ref b3, .ref b4, .ref b5, .ref b6, .ref b7, .ref b8, .ref b9, .int (nI mf), .ref b10, .ref b11, .ref b12, .int (nI my), .int (nI (Bool.toNat mw)), .ref b13, .ref b14, .ref b15])), fk_ai E b1 20 len, fk_ai E b2 300 ev]) := by
  refine fk_enterI (v := fun _ => (nI (ev (15 * t + i)))) (by decide) (Nat.le_of_ble_eq_true rfl) (lv0 := [(0, .ref b0), (1, .int (nI t)), (2, .int (nI i))]) rfl ?_
  intro K hini hret
  have h9 := h3 t (by omega)
  refine fk_iload_n 1 d_Md_at_0 rfl ?_
  refine fk_if_lt (by omega) d_Md_at_1 rfl ?_
  refine fk_iload_n 1 d_Md_at_4 rfl ?_
  refine fk_aload_n 0 d_Md_at_5 rfl ?_
  refine fk_get 0 0 rfl rfl fh_Md (Nat.le_of_ble_eq_true rfl) fw_507 rfl d_Md_at_6 ?_
  refine fk_icmp_ge (a := t) (b := mt) (by omega) (by omega) d_Md_at_9 rfl (fun h9t => ?_) (fun h9f => ?_)
  · omega
  · refine fk_iload_n 2 d_Md_at_12 rfl ?_
    refine fk_if_lt (by omega) d_Md_at_13 rfl ?_
    refine fk_iload_n 2 d_Md_at_16 rfl ?_
    refine fk_aload_n 0 d_Md_at_17 rfl ?_
    refine fk_get 0 1 rfl rfl fh_Md (Nat.le_of_ble_eq_true rfl) fw_508 rfl d_Md_at_18 ?_
    refine fk_iload_n 1 d_Md_at_21 rfl ?_
    refine fk_ld_ai (i := t) 1 rfl (by omega) (by decide) d_Md_at_22 ?_
    refine fk_icmp_lt (a := i) (b := (len t)) (by omega) (by omega) d_Md_at_23 rfl (fun h23t => ?_) (fun h23f => ?_)
    · refine fk_aload_n 0 d_Md_at_30 rfl ?_
      refine fk_get 0 2 rfl rfl fh_Md (Nat.le_of_ble_eq_true rfl) fw_509 rfl d_Md_at_31 ?_
      refine fk_bipush (v := nI 15) d_Md_at_34 (by decide +kernel) ?_
      refine fk_iload_n 1 d_Md_at_36 rfl ?_
      refine fk_imul (a := 15) (b := t) d_Md_at_37 ?_
      refine fk_iload_n 2 d_Md_at_38 rfl ?_
      refine fk_iadd (a := (15 * t)) (b := i) d_Md_at_39 ?_
      refine fk_ld_ai (i := ((15 * t) + i)) 2 rfl (by omega) (by decide) d_Md_at_40 ?_
      refine fk_top (congrArg nI (show ev ((15 * t) + i) = ev (15 * t + i) from by first | omega | simp_all)) ?_
      exact hret (0, 0) _ 41 _ () d_Md_at_41 (trivial) (rfl)
    · omega
set_option maxRecDepth 20000 in
set_option maxHeartbeats 4000000 in
theorem cD_atO (E : fk_E) (b0 : Nat) (b1 : Nat) (b2 : Nat) (b3 : Nat) (b4 : Nat) (b5 : Nat) (b6 : Nat) (b7 : Nat) (b8 : Nat) (b9 : Nat) (b10 : Nat) (b11 : Nat) (b12 : Nat) (b13 : Nat) (b14 : Nat) (b15 : Nat) (mt : Nat) (mf : Nat) (my : Nat) (mw : Bool) (len : Nat → Nat) (ev : Nat → Nat) (t : Nat) (i : Nat) (ht : mt ≤ 20) (h3 : ∀ k, k < 20 → len k ≤ 15) (h1 : ¬ (t < mt ∧ i < len t)) (h2 : t < 2 ^ 31) (h4 : i < 2 ^ 31) : fk_C E fy_Md_at prog_8_method_6_code 3 (some .int) 0 0 0 [.ref b0, .int (nI t), .int (nI i)] [(b0, .inr (6, [.int (nI mt), .ref b1, .ref b2, .ref b3, .ref b4, .ref b5, .ref b6, .ref b7, .ref b8, .ref b9, .int (nI mf), .ref b10, .ref b11, .ref b12, .int (nI my), .int (nI (Bool.toNat mw)), .ref b13, .ref b14, .ref b15])), fk_ai E b1 20 len, fk_ai E b2 300 ev] (S := Unit) (fun _ => some (.int (nI 0 - 1))) (fun _ => True) (fun _ => [(b0, .inr (6, [.int (nI mt), .ref b1, .ref b2, .ref b3, .ref b4, .ref b5, .ref b6, .ref b7, .ref b8, .ref b9, .int (nI mf), .ref b10, .ref b11, .ref b12, .int (nI my), .int (nI (Bool.toNat mw)), .ref b13, .ref b14, .ref b15])), fk_ai E b1 20 len, fk_ai E b2 300 ev]) := by
  refine fk_enterI (v := fun _ => (nI 0 - 1)) (by decide) (Nat.le_of_ble_eq_true rfl) (lv0 := [(0, .ref b0), (1, .int (nI t)), (2, .int (nI i))]) rfl ?_
  intro K hini hret
  refine fk_iload_n 1 d_Md_at_0 rfl ?_
  refine fk_if_lt (by omega) d_Md_at_1 rfl ?_
  refine fk_iload_n 1 d_Md_at_4 rfl ?_
  refine fk_aload_n 0 d_Md_at_5 rfl ?_
  refine fk_get 0 0 rfl rfl fh_Md (Nat.le_of_ble_eq_true rfl) fw_507 rfl d_Md_at_6 ?_
  refine fk_icmp_ge (a := t) (b := mt) (by omega) (by omega) d_Md_at_9 rfl (fun h9t => ?_) (fun h9f => ?_)
  · refine fk_iconst (v := nI 0 - 1) d_Md_at_26 (by decide +kernel) ?_
    refine fk_goto d_Md_at_27 rfl ?_
    exact hret (0, 0) _ 41 _ () d_Md_at_41 (trivial) (rfl)
  · have h9 := h3 t (by omega)
    refine fk_iload_n 2 d_Md_at_12 rfl ?_
    refine fk_if_lt (by omega) d_Md_at_13 rfl ?_
    refine fk_iload_n 2 d_Md_at_16 rfl ?_
    refine fk_aload_n 0 d_Md_at_17 rfl ?_
    refine fk_get 0 1 rfl rfl fh_Md (Nat.le_of_ble_eq_true rfl) fw_508 rfl d_Md_at_18 ?_
    refine fk_iload_n 1 d_Md_at_21 rfl ?_
    refine fk_ld_ai (i := t) 1 rfl (by omega) (by decide) d_Md_at_22 ?_
    refine fk_icmp_lt (a := i) (b := (len t)) (by omega) (by omega) d_Md_at_23 rfl (fun h23t => ?_) (fun h23f => ?_)
    · omega
    · refine fk_iconst (v := nI 0 - 1) d_Md_at_26 (by decide +kernel) ?_
      refine fk_goto d_Md_at_27 rfl ?_
      exact hret (0, 0) _ 41 _ () d_Md_at_41 (trivial) (rfl)
set_option maxRecDepth 20000 in
set_option maxHeartbeats 4000000 in
theorem cD_atM (E : fk_E) (b0 : Nat) (b1 : Nat) (b2 : Nat) (b3 : Nat) (b4 : Nat) (b5 : Nat) (b6 : Nat) (b7 : Nat) (b8 : Nat) (b9 : Nat) (b10 : Nat) (b11 : Nat) (b12 : Nat) (b13 : Nat) (b14 : Nat) (b15 : Nat) (mt : Nat) (mf : Nat) (my : Nat) (mw : Bool) (len : Nat → Nat) (ev : Nat → Nat) (t : Nat) (y : Int32) (ht : mt ≤ 20) (h2 : t < 2 ^ 31) (hx : y < 0) : fk_C E fy_Md_at prog_8_method_6_code 3 (some .int) 0 0 0 [.ref b0, .int (nI t), .int y] [(b0, .inr (6, [.int (nI mt), .ref b1, .ref b2, .ref b3, .ref b4, .ref b5, .ref b6, .ref b7, .ref b8, .ref b9, .int (nI mf), .ref b10, .ref b11, .ref b12, .int (nI my), .int (nI (Bool.toNat mw)), .ref b13, .ref b14, .ref b15])), fk_ai E b1 20 len, fk_ai E b2 300 ev] (S := Unit) (fun _ => some (.int (nI 0 - 1))) (fun _ => True) (fun _ => [(b0, .inr (6, [.int (nI mt), .ref b1, .ref b2, .ref b3, .ref b4, .ref b5, .ref b6, .ref b7, .ref b8, .ref b9, .int (nI mf), .ref b10, .ref b11, .ref b12, .int (nI my), .int (nI (Bool.toNat mw)), .ref b13, .ref b14, .ref b15])), fk_ai E b1 20 len, fk_ai E b2 300 ev]) := by
  refine fk_enterI (v := fun _ => (nI 0 - 1)) (by decide) (Nat.le_of_ble_eq_true rfl) (lv0 := [(0, .ref b0), (1, .int (nI t)), (2, .int y)]) rfl ?_
  intro K hini hret
  refine fk_iload_n 1 d_Md_at_0 rfl ?_
  refine fk_if_lt (by omega) d_Md_at_1 rfl ?_
  refine fk_iload_n 1 d_Md_at_4 rfl ?_
  refine fk_aload_n 0 d_Md_at_5 rfl ?_
  refine fk_get 0 0 rfl rfl fh_Md (Nat.le_of_ble_eq_true rfl) fw_507 rfl d_Md_at_6 ?_
  refine fk_icmp_ge (a := t) (b := mt) (by omega) (by omega) d_Md_at_9 rfl (fun h9t => ?_) (fun h9f => ?_)
  · refine fk_iconst (v := nI 0 - 1) d_Md_at_26 (by decide +kernel) ?_
    refine fk_goto d_Md_at_27 rfl ?_
    exact hret (0, 0) _ 41 _ () d_Md_at_41 (trivial) (rfl)
  · refine fk_iload_n 2 d_Md_at_12 rfl ?_
    refine fk_if_ltR d_Md_at_13 rfl (fun h13t => ?_) (fun h13f => ?_)
    · refine fk_iconst (v := nI 0 - 1) d_Md_at_26 (by decide +kernel) ?_
      refine fk_goto d_Md_at_27 rfl ?_
      exact hret (0, 0) _ 41 _ () d_Md_at_41 (trivial) (rfl)
    · exact absurd hx h13f
set_option maxRecDepth 20000 in
set_option maxHeartbeats 4000000 in
theorem cD_atN (E : fk_E) (b0 : Nat) (b1 : Nat) (b2 : Nat) (b3 : Nat) (b4 : Nat) (b5 : Nat) (b6 : Nat) (b7 : Nat) (b8 : Nat) (b9 : Nat) (b10 : Nat) (b11 : Nat) (b12 : Nat) (b13 : Nat) (b14 : Nat) (b15 : Nat) (mt : Nat) (mf : Nat) (my : Nat) (mw : Bool) (len : Nat → Nat) (ev : Nat → Nat) (x : Int32) (y : Int32) (hx : x < 0) : fk_C E fy_Md_at prog_8_method_6_code 3 (some .int) 0 0 0 [.ref b0, .int x, .int y] [(b0, .inr (6, [.int (nI mt), .ref b1, .ref b2, .ref b3, .ref b4, .ref b5, .ref b6, .ref b7, .ref b8, .ref b9, .int (nI mf), .ref b10, .ref b11, .ref b12, .int (nI my), .int (nI (Bool.toNat mw)), .ref b13, .ref b14, .ref b15])), fk_ai E b1 20 len, fk_ai E b2 300 ev] (S := Unit) (fun _ => some (.int (nI 0 - 1))) (fun _ => True) (fun _ => [(b0, .inr (6, [.int (nI mt), .ref b1, .ref b2, .ref b3, .ref b4, .ref b5, .ref b6, .ref b7, .ref b8, .ref b9, .int (nI mf), .ref b10, .ref b11, .ref b12, .int (nI my), .int (nI (Bool.toNat mw)), .ref b13, .ref b14, .ref b15])), fk_ai E b1 20 len, fk_ai E b2 300 ev]) := by
  refine fk_enterI (v := fun _ => (nI 0 - 1)) (by decide) (Nat.le_of_ble_eq_true rfl) (lv0 := [(0, .ref b0), (1, .int x), (2, .int y)]) rfl ?_
  intro K hini hret
  refine fk_iload_n 1 d_Md_at_0 rfl ?_
  refine fk_if_ltR d_Md_at_1 rfl (fun h1t => ?_) (fun h1f => ?_)
  · refine fk_iconst (v := nI 0 - 1) d_Md_at_26 (by decide +kernel) ?_
    refine fk_goto d_Md_at_27 rfl ?_
    exact hret (0, 0) _ 41 _ () d_Md_at_41 (trivial) (rfl)
  · exact absurd hx h1f
theorem d_Md_has_0 : decode prog_8_method_9_code 0 = .ok (.iload_n 0, 1) := by decide +kernel
theorem d_Md_has_1 : decode prog_8_method_9_code 1 = .ok (.iload_n 1, 1) := by decide +kernel
theorem d_Md_has_2 : decode prog_8_method_9_code 2 = .ok (.ishr, 1) := by decide +kernel
theorem d_Md_has_3 : decode prog_8_method_9_code 3 = .ok (.iconst 1, 1) := by decide +kernel
theorem d_Md_has_4 : decode prog_8_method_9_code 4 = .ok (.iand, 1) := by decide +kernel
theorem d_Md_has_5 : decode prog_8_method_9_code 5 = .ok (.iconst 1, 1) := by decide +kernel
theorem d_Md_has_6 : decode prog_8_method_9_code 6 = .ok (.if_icmp .ne 7, 3) := by decide +kernel
theorem d_Md_has_9 : decode prog_8_method_9_code 9 = .ok (.iconst 1, 1) := by decide +kernel
theorem d_Md_has_10 : decode prog_8_method_9_code 10 = .ok (.goto 4, 3) := by decide +kernel
theorem d_Md_has_13 : decode prog_8_method_9_code 13 = .ok (.iconst 0, 1) := by decide +kernel
theorem d_Md_has_14 : decode prog_8_method_9_code 14 = .ok (.ireturn, 1) := by decide +kernel
set_option maxRecDepth 20000 in
set_option maxHeartbeats 4000000 in
theorem cD_has (E : fk_E) (s : Nat) (a : Nat) (hs : s < 2 ^ 31) (ha : a < 31) : fk_C E fy_Md_has prog_8_method_9_code 2 (some .boolean) 0 0 0 [.int (nI s), .int (nI a)] [] (S := Unit) (fun _ => some (.int (nI (Bool.toNat (Nat.testBit s a))))) (fun _ => True) (fun _ => []) := by
  refine fk_enterZ (v := fun _ => Nat.testBit s a) (by decide) (Nat.le_of_ble_eq_true rfl) (lv0 := [(0, .int (nI s)), (1, .int (nI a))]) rfl ?_
  intro K hini hret
  refine fk_iload_n 0 d_Md_has_0 rfl ?_
  refine fk_iload_n 1 d_Md_has_1 rfl ?_
  refine fk_ishr (a := s) (b := a) d_Md_has_2 (by omega) (by omega) ?_
  refine fk_iconst (v := nI 1) d_Md_has_3 (by decide +kernel) ?_
  refine fk_iand (a := (s / 2 ^ a)) (b := 1) d_Md_has_4 ?_
  refine fk_iconst (v := nI 1) d_Md_has_5 (by decide +kernel) ?_
  refine fk_icmp_ne (a := ((s / 2 ^ a) &&& 1)) (b := 1) (Nat.lt_of_le_of_lt Nat.and_le_right (by decide)) (by omega) d_Md_has_6 rfl (fun h6t => ?_) (fun h6f => ?_)
  · have h9 : Nat.testBit s a = false := by cases q : Nat.testBit s a with | false => rfl | true => exact absurd (fb_has.mpr q) h6t
    refine fk_iconst (v := nI 0) d_Md_has_13 (by decide +kernel) ?_
    refine fk_top (fn_rf (b := Nat.testBit s a) (by first | assumption | (simp; omega) | simp_all | (simp_all; omega))) ?_
    exact hret (0, 0) _ 14 _ () d_Md_has_14 (trivial) (rfl)
  · have h9 := fb_has.mp h6f
    refine fk_iconst (v := nI 1) d_Md_has_9 (by decide +kernel) ?_
    refine fk_goto d_Md_has_10 rfl ?_
    refine fk_top (fn_rt (b := Nat.testBit s a) (by first | assumption | (simp; omega) | simp_all | (simp_all; omega))) ?_
    exact hret (0, 0) _ 14 _ () d_Md_has_14 (trivial) (rfl)
theorem d_Md_followed_0 : decode prog_8_method_7_code 0 = .ok (.iconst 0, 1) := by decide +kernel
theorem d_Md_followed_1 : decode prog_8_method_7_code 1 = .ok (.istore_n 3, 1) := by decide +kernel
theorem d_Md_followed_2 : decode prog_8_method_7_code 2 = .ok (.iload_n 3, 1) := by decide +kernel
theorem d_Md_followed_3 : decode prog_8_method_7_code 3 = .ok (.aload_n 0, 1) := by decide +kernel
theorem d_Md_followed_4 : decode prog_8_method_7_code 4 = .ok (.getfield 58, 3) := by decide +kernel
theorem d_Md_followed_7 : decode prog_8_method_7_code 7 = .ok (.if_icmp .ge 65, 3) := by decide +kernel
theorem d_Md_followed_10 : decode prog_8_method_7_code 10 = .ok (.bipush 15, 2) := by decide +kernel
theorem d_Md_followed_12 : decode prog_8_method_7_code 12 = .ok (.iload_n 3, 1) := by decide +kernel
theorem d_Md_followed_13 : decode prog_8_method_7_code 13 = .ok (.imul, 1) := by decide +kernel
theorem d_Md_followed_14 : decode prog_8_method_7_code 14 = .ok (.istore 4, 2) := by decide +kernel
theorem d_Md_followed_16 : decode prog_8_method_7_code 16 = .ok (.iload 4, 2) := by decide +kernel
theorem d_Md_followed_18 : decode prog_8_method_7_code 18 = .ok (.iconst 1, 1) := by decide +kernel
theorem d_Md_followed_19 : decode prog_8_method_7_code 19 = .ok (.iadd, 1) := by decide +kernel
theorem d_Md_followed_20 : decode prog_8_method_7_code 20 = .ok (.bipush 15, 2) := by decide +kernel
theorem d_Md_followed_22 : decode prog_8_method_7_code 22 = .ok (.iload_n 3, 1) := by decide +kernel
theorem d_Md_followed_23 : decode prog_8_method_7_code 23 = .ok (.imul, 1) := by decide +kernel
theorem d_Md_followed_24 : decode prog_8_method_7_code 24 = .ok (.aload_n 0, 1) := by decide +kernel
theorem d_Md_followed_25 : decode prog_8_method_7_code 25 = .ok (.getfield 7, 3) := by decide +kernel
theorem d_Md_followed_28 : decode prog_8_method_7_code 28 = .ok (.iload_n 3, 1) := by decide +kernel
theorem d_Md_followed_29 : decode prog_8_method_7_code 29 = .ok (.iaload, 1) := by decide +kernel
theorem d_Md_followed_30 : decode prog_8_method_7_code 30 = .ok (.iadd, 1) := by decide +kernel
theorem d_Md_followed_31 : decode prog_8_method_7_code 31 = .ok (.if_icmp .ge 35, 3) := by decide +kernel
theorem d_Md_followed_34 : decode prog_8_method_7_code 34 = .ok (.aload_n 0, 1) := by decide +kernel
theorem d_Md_followed_35 : decode prog_8_method_7_code 35 = .ok (.getfield 13, 3) := by decide +kernel
theorem d_Md_followed_38 : decode prog_8_method_7_code 38 = .ok (.iload 4, 2) := by decide +kernel
theorem d_Md_followed_40 : decode prog_8_method_7_code 40 = .ok (.iaload, 1) := by decide +kernel
theorem d_Md_followed_41 : decode prog_8_method_7_code 41 = .ok (.iload_n 1, 1) := by decide +kernel
theorem d_Md_followed_42 : decode prog_8_method_7_code 42 = .ok (.if_icmp .ne 18, 3) := by decide +kernel
theorem d_Md_followed_45 : decode prog_8_method_7_code 45 = .ok (.aload_n 0, 1) := by decide +kernel
theorem d_Md_followed_46 : decode prog_8_method_7_code 46 = .ok (.getfield 13, 3) := by decide +kernel
theorem d_Md_followed_49 : decode prog_8_method_7_code 49 = .ok (.iload 4, 2) := by decide +kernel
theorem d_Md_followed_51 : decode prog_8_method_7_code 51 = .ok (.iconst 1, 1) := by decide +kernel
theorem d_Md_followed_52 : decode prog_8_method_7_code 52 = .ok (.iadd, 1) := by decide +kernel
theorem d_Md_followed_53 : decode prog_8_method_7_code 53 = .ok (.iaload, 1) := by decide +kernel
theorem d_Md_followed_54 : decode prog_8_method_7_code 54 = .ok (.iload_n 2, 1) := by decide +kernel
theorem d_Md_followed_55 : decode prog_8_method_7_code 55 = .ok (.if_icmp .ne 5, 3) := by decide +kernel
theorem d_Md_followed_58 : decode prog_8_method_7_code 58 = .ok (.iconst 1, 1) := by decide +kernel
theorem d_Md_followed_59 : decode prog_8_method_7_code 59 = .ok (.ireturn, 1) := by decide +kernel
theorem d_Md_followed_60 : decode prog_8_method_7_code 60 = .ok (.iinc 4 1, 3) := by decide +kernel
theorem d_Md_followed_63 : decode prog_8_method_7_code 63 = .ok (.goto (-47), 3) := by decide +kernel
theorem d_Md_followed_66 : decode prog_8_method_7_code 66 = .ok (.iinc 3 1, 3) := by decide +kernel
theorem d_Md_followed_69 : decode prog_8_method_7_code 69 = .ok (.goto (-67), 3) := by decide +kernel
theorem d_Md_followed_72 : decode prog_8_method_7_code 72 = .ok (.iconst 0, 1) := by decide +kernel
theorem d_Md_followed_73 : decode prog_8_method_7_code 73 = .ok (.ireturn, 1) := by decide +kernel
set_option maxRecDepth 20000 in
set_option maxHeartbeats 4000000 in
theorem cD_followed (E : fk_E) (b0 : Nat) (b1 : Nat) (b2 : Nat) (b3 : Nat) (b4 : Nat) (b5 : Nat) (b6 : Nat) (b7 : Nat) (b8 : Nat) (b9 : Nat) (b10 : Nat) (b11 : Nat) (b12 : Nat) (b13 : Nat) (b14 : Nat) (b15 : Nat) (mt : Nat) (mf : Nat) (my : Nat) (mw : Bool) (len : Nat → Nat) (ev : Nat → Nat) (a : Nat) (b : Nat) (ht : mt ≤ 20) (hl : ∀ t, t < mt → len t ≤ 15) (he : ∀ t, t < mt → ∀ i, i < len t → ev (15 * t + i) < 7) (ha : a < 7) (hb : b < 7) : fk_C E fy_Md_followed prog_8_method_7_code 5 (some .boolean) 0 0 0 [.ref b0, .int (nI a), .int (nI b)] [(b0, .inr (6, [.int (nI mt), .ref b1, .ref b2, .ref b3, .ref b4, .ref b5, .ref b6, .ref b7, .ref b8, .ref b9, .int (nI mf), .ref b10, .ref b11, .ref b12, .int (nI my), .int (nI (Bool.toNat mw)), .ref b13, .ref b14, .ref b15])), fk_ai E b1 20 len, fk_ai E b2 300 ev] (S := Unit) (fun _ => some (.int (nI (Bool.toNat (fg_fl mt len ev a b))))) (fun _ => True) (fun _ => [(b0, .inr (6, [.int (nI mt), .ref b1, .ref b2, .ref b3, .ref b4, .ref b5, .ref b6, .ref b7, .ref b8, .ref b9, .int (nI mf), .ref b10, .ref b11, .ref b12, .int (nI my), .int (nI (Bool.toNat mw)), .ref b13, .ref b14, .ref b15])), fk_ai E b1 20 len, fk_ai E b2 300 ev]) := by
  refine fk_enterZ (v := fun _ => fg_fl mt len ev a b) (by decide) (Nat.le_of_ble_eq_true rfl) (lv0 := [(0, .ref b0), (1, .int (nI a)), (2, .int (nI b))]) rfl ?_
  intro K hini hret
  refine fk_iconst (v := nI 0) d_Md_followed_0 (by decide +kernel) ?_
  refine fk_istore_n (lv' := [(0, .ref b0), (1, .int (nI a)), (2, .int (nI b)), (3, .int (nI 0))]) d_Md_followed_1 rfl (Nat.le_of_ble_eq_true rfl) [1, 2, 3, 0] rfl ?_
  have L2 : ∀ (fuel : Nat) (t : Nat), (t ≤ mt) → (∀ j, j < t → fs_any (fun z9 => decide (ev (15 * j + z9) = a) && decide (ev (15 * j + z9 + 1) = b)) (len j - 1) = false) → mt - t < fuel → fk_V E (prog_8_method_7_code, fy_Md_followed.cls, 5, fk_rm 0 0 0) K (0, 0) [(b0, .inr (6, [.int (nI mt), .ref b1, .ref b2, .ref b3, .ref b4, .ref b5, .ref b6, .ref b7, .ref b8, .ref b9, .int (nI mf), .ref b10, .ref b11, .ref b12, .int (nI my), .int (nI (Bool.toNat mw)), .ref b13, .ref b14, .ref b15])), fk_ai E b1 20 len, fk_ai E b2 300 ev] 2 [(0, .ref b0), (1, .int (nI a)), (2, .int (nI b)), (3, .int (nI t))] [] := by
    intro fuel
    induction fuel with
    | zero => intro t _ _ hm; exact absurd hm (Nat.not_lt_zero _)
    | succ fuel ih =>
      intro t h1 h2 hm2
      have ih2 := ih
      clear ih
      refine fk_iload_n 3 d_Md_followed_2 rfl ?_
      refine fk_aload_n 0 d_Md_followed_3 rfl ?_
      refine fk_get 0 0 rfl rfl fh_Md (Nat.le_of_ble_eq_true rfl) fw_507 rfl d_Md_followed_4 ?_
      refine fk_icmp_ge (a := t) (b := mt) (by omega) (by omega) d_Md_followed_7 rfl (fun h7t => ?_) (fun h7f => ?_)
      · refine fk_iconst (v := nI 0) d_Md_followed_72 (by decide +kernel) ?_
        refine fk_top (fn_rf (b := fg_fl mt len ev a b) (fs_any_f.mpr (fun j hj => h2 j (by omega)))) ?_
        exact hret (0, 0) _ 73 _ () d_Md_followed_73 (trivial) (rfl)
      · have h5 := hl t (by omega)
        refine fk_bipush (v := nI 15) d_Md_followed_10 (by decide +kernel) ?_
        refine fk_iload_n 3 d_Md_followed_12 rfl ?_
        refine fk_imul (a := 15) (b := t) d_Md_followed_13 ?_
        refine fk_istore (lv' := [(0, .ref b0), (1, .int (nI a)), (2, .int (nI b)), (3, .int (nI t)), (4, .int (nI (15 * t)))]) d_Md_followed_14 (Nat.le_of_ble_eq_true rfl) [1, 2, 3, 4, 0] rfl ?_
        have L16 : ∀ (fuel : Nat) (i : Nat), (i ≤ len t) → (∀ z, z < i → (decide (ev (15 * t + z) = a) && decide (ev (15 * t + z + 1) = b)) = false) → len t - i < fuel → fk_V E (prog_8_method_7_code, fy_Md_followed.cls, 5, fk_rm 0 0 0) K (0, 0) [(b0, .inr (6, [.int (nI mt), .ref b1, .ref b2, .ref b3, .ref b4, .ref b5, .ref b6, .ref b7, .ref b8, .ref b9, .int (nI mf), .ref b10, .ref b11, .ref b12, .int (nI my), .int (nI (Bool.toNat mw)), .ref b13, .ref b14, .ref b15])), fk_ai E b1 20 len, fk_ai E b2 300 ev] 16 [(0, .ref b0), (1, .int (nI a)), (2, .int (nI b)), (3, .int (nI t)), (4, .int (nI (15 * t + i)))] [] := by
          intro fuel
          induction fuel with
          | zero => intro i _ _ hm; exact absurd hm (Nat.not_lt_zero _)
          | succ fuel ih =>
            intro i h3 h4 hm16
            have ih16 := ih
            clear ih
            have h5 := hl t (by omega)
            refine fk_iload 4 d_Md_followed_16 rfl ?_
            refine fk_iconst (v := nI 1) d_Md_followed_18 (by decide +kernel) ?_
            refine fk_iadd (a := (15 * t + i)) (b := 1) d_Md_followed_19 ?_
            refine fk_bipush (v := nI 15) d_Md_followed_20 (by decide +kernel) ?_
            refine fk_iload_n 3 d_Md_followed_22 rfl ?_
            refine fk_imul (a := 15) (b := t) d_Md_followed_23 ?_
            refine fk_aload_n 0 d_Md_followed_24 rfl ?_
            refine fk_get 0 1 rfl rfl fh_Md (Nat.le_of_ble_eq_true rfl) fw_508 rfl d_Md_followed_25 ?_
            refine fk_iload_n 3 d_Md_followed_28 rfl ?_
            refine fk_ld_ai (i := t) 1 rfl (by omega) (by decide) d_Md_followed_29 ?_
            refine fk_iadd (a := (15 * t)) (b := (len t)) d_Md_followed_30 ?_
            refine fk_icmp_ge (a := ((15 * t + i) + 1)) (b := ((15 * t) + (len t))) (by omega) (by omega) d_Md_followed_31 rfl (fun h31t => ?_) (fun h31f => ?_)
            · refine fk_iinc (j := 3) (lv' := [(0, .ref b0), (1, .int (nI a)), (2, .int (nI b)), (3, .int (nI (t + 1))), (4, .int (nI (15 * t + i)))]) (t + 1) d_Md_followed_66 rfl (nI_1 t) (Nat.le_of_ble_eq_true rfl) [1, 2, 3, 0, 4] rfl ?_
              refine fk_goto d_Md_followed_69 rfl ?_
              refine fk_lv (lv' := [(0, .ref b0), (1, .int (nI a)), (2, .int (nI b)), (3, .int (nI (t + 1)))]) [0, 1, 2, 3] rfl ?_
              refine ih2 _ ?_ ?_ ?_
              · first | omega | assumption | exact Nat.zero_le _
              · exact fs_lt_s (f := fun j => fs_any (fun z9 => decide (ev (15 * j + z9) = a) && decide (ev (15 * j + z9 + 1) = b)) (len j - 1)) h2 (fs_any_f.mpr (fun z hz => h4 z (by omega)))
              · omega
            · have g1 := he t (by omega) i (by omega)
              have g2 : ev (15 * t + i + 1) < 7 := he t (by omega) (i + 1) (by omega)
              refine fk_aload_n 0 d_Md_followed_34 rfl ?_
              refine fk_get 0 2 rfl rfl fh_Md (Nat.le_of_ble_eq_true rfl) fw_509 rfl d_Md_followed_35 ?_
              refine fk_iload 4 d_Md_followed_38 rfl ?_
              refine fk_ld_ai (i := (15 * t + i)) 2 rfl (by omega) (by decide) d_Md_followed_40 ?_
              refine fk_iload_n 1 d_Md_followed_41 rfl ?_
              refine fk_icmp_ne (a := (ev (15 * t + i))) (b := a) (by omega) (by omega) d_Md_followed_42 rfl (fun h42t => ?_) (fun h42f => ?_)
              · refine fk_iinc (j := 4) (lv' := [(0, .ref b0), (1, .int (nI a)), (2, .int (nI b)), (3, .int (nI t)), (4, .int (nI ((15 * t + i) + 1)))]) ((15 * t + i) + 1) d_Md_followed_60 rfl (nI_1 (15 * t + i)) (Nat.le_of_ble_eq_true rfl) [1, 2, 3, 4, 0] rfl ?_
                refine fk_goto d_Md_followed_63 rfl ?_
                refine ih16 (i + 1) ?_ ?_ ?_
                · first | omega | assumption | exact Nat.zero_le _
                · refine fs_lt_s (f := fun z => decide (ev (15 * t + z) = a) && decide (ev (15 * t + z + 1) = b)) h4 ?_
                  first | simp [h42t] | simp [h55t]
                · omega
              · refine fk_aload_n 0 d_Md_followed_45 rfl ?_
                refine fk_get 0 2 rfl rfl fh_Md (Nat.le_of_ble_eq_true rfl) fw_509 rfl d_Md_followed_46 ?_
                refine fk_iload 4 d_Md_followed_49 rfl ?_
                refine fk_iconst (v := nI 1) d_Md_followed_51 (by decide +kernel) ?_
                refine fk_iadd (a := (15 * t + i)) (b := 1) d_Md_followed_52 ?_
                refine fk_ld_ai (i := ((15 * t + i) + 1)) 2 rfl (by omega) (by decide) d_Md_followed_53 ?_
                refine fk_iload_n 2 d_Md_followed_54 rfl ?_
                refine fk_icmp_ne (a := (ev ((15 * t + i) + 1))) (b := b) (by omega) (by omega) d_Md_followed_55 rfl (fun h55t => ?_) (fun h55f => ?_)
                · refine fk_iinc (j := 4) (lv' := [(0, .ref b0), (1, .int (nI a)), (2, .int (nI b)), (3, .int (nI t)), (4, .int (nI ((15 * t + i) + 1)))]) ((15 * t + i) + 1) d_Md_followed_60 rfl (nI_1 (15 * t + i)) (Nat.le_of_ble_eq_true rfl) [1, 2, 3, 4, 0] rfl ?_
                  refine fk_goto d_Md_followed_63 rfl ?_
                  refine ih16 (i + 1) ?_ ?_ ?_
                  · first | omega | assumption | exact Nat.zero_le _
                  · refine fs_lt_s (f := fun z => decide (ev (15 * t + z) = a) && decide (ev (15 * t + z + 1) = b)) h4 ?_
                    first | simp [h42t] | simp [h55t]
                  · omega
                · refine fk_iconst (v := nI 1) d_Md_followed_58 (by decide +kernel) ?_
                  refine fk_top (fn_rt (b := fg_fl mt len ev a b) (fs_any_t (j := t) (by omega) (fs_any_t (j := i) (by omega) (by rw [decide_eq_true h42f, decide_eq_true h55f]; rfl)))) ?_
                  exact hret (0, 0) _ 59 _ () d_Md_followed_59 (trivial) (rfl)
        refine L16 _ 0 ?_ ?_ (Nat.lt_succ_self _)
        · first | omega | assumption | exact Nat.zero_le _
        · exact fs_lt_0
  refine L2 _ _ ?_ ?_ (Nat.lt_succ_self _)
  · first | omega | assumption | exact Nat.zero_le _
  · exact fs_lt_0
theorem d_Md_relation_0 : decode prog_8_method_8_code 0 = .ok (.iload_n 1, 1) := by decide +kernel
theorem d_Md_relation_1 : decode prog_8_method_8_code 1 = .ok (.ifCond .lt 19, 3) := by decide +kernel
theorem d_Md_relation_4 : decode prog_8_method_8_code 4 = .ok (.iload_n 1, 1) := by decide +kernel
theorem d_Md_relation_5 : decode prog_8_method_8_code 5 = .ok (.bipush 6, 2) := by decide +kernel
theorem d_Md_relation_7 : decode prog_8_method_8_code 7 = .ok (.if_icmp .gt 13, 3) := by decide +kernel
theorem d_Md_relation_10 : decode prog_8_method_8_code 10 = .ok (.iload_n 2, 1) := by decide +kernel
theorem d_Md_relation_11 : decode prog_8_method_8_code 11 = .ok (.ifCond .lt 9, 3) := by decide +kernel
theorem d_Md_relation_14 : decode prog_8_method_8_code 14 = .ok (.iload_n 2, 1) := by decide +kernel
theorem d_Md_relation_15 : decode prog_8_method_8_code 15 = .ok (.bipush 6, 2) := by decide +kernel
theorem d_Md_relation_17 : decode prog_8_method_8_code 17 = .ok (.if_icmp .le 5, 3) := by decide +kernel
theorem d_Md_relation_20 : decode prog_8_method_8_code 20 = .ok (.iconst (-1), 1) := by decide +kernel
theorem d_Md_relation_21 : decode prog_8_method_8_code 21 = .ok (.ireturn, 1) := by decide +kernel
theorem d_Md_relation_22 : decode prog_8_method_8_code 22 = .ok (.aload_n 0, 1) := by decide +kernel
theorem d_Md_relation_23 : decode prog_8_method_8_code 23 = .ok (.iload_n 1, 1) := by decide +kernel
theorem d_Md_relation_24 : decode prog_8_method_8_code 24 = .ok (.iload_n 2, 1) := by decide +kernel
theorem d_Md_relation_25 : decode prog_8_method_8_code 25 = .ok (.invokevirtual 62, 3) := by decide +kernel
theorem d_Md_relation_28 : decode prog_8_method_8_code 28 = .ok (.ifCond .eq 7, 3) := by decide +kernel
theorem d_Md_relation_31 : decode prog_8_method_8_code 31 = .ok (.iconst 1, 1) := by decide +kernel
theorem d_Md_relation_32 : decode prog_8_method_8_code 32 = .ok (.goto 4, 3) := by decide +kernel
theorem d_Md_relation_35 : decode prog_8_method_8_code 35 = .ok (.iconst 0, 1) := by decide +kernel
theorem d_Md_relation_36 : decode prog_8_method_8_code 36 = .ok (.aload_n 0, 1) := by decide +kernel
theorem d_Md_relation_37 : decode prog_8_method_8_code 37 = .ok (.iload_n 2, 1) := by decide +kernel
theorem d_Md_relation_38 : decode prog_8_method_8_code 38 = .ok (.iload_n 1, 1) := by decide +kernel
theorem d_Md_relation_39 : decode prog_8_method_8_code 39 = .ok (.invokevirtual 62, 3) := by decide +kernel
theorem d_Md_relation_42 : decode prog_8_method_8_code 42 = .ok (.ifCond .eq 7, 3) := by decide +kernel
theorem d_Md_relation_45 : decode prog_8_method_8_code 45 = .ok (.iconst 2, 1) := by decide +kernel
theorem d_Md_relation_46 : decode prog_8_method_8_code 46 = .ok (.goto 4, 3) := by decide +kernel
theorem d_Md_relation_49 : decode prog_8_method_8_code 49 = .ok (.iconst 0, 1) := by decide +kernel
theorem d_Md_relation_50 : decode prog_8_method_8_code 50 = .ok (.iadd, 1) := by decide +kernel
theorem d_Md_relation_51 : decode prog_8_method_8_code 51 = .ok (.ireturn, 1) := by decide +kernel
set_option maxRecDepth 20000 in
set_option maxHeartbeats 4000000 in
theorem cD_relation (E : fk_E) (b0 : Nat) (b1 : Nat) (b2 : Nat) (b3 : Nat) (b4 : Nat) (b5 : Nat) (b6 : Nat) (b7 : Nat) (b8 : Nat) (b9 : Nat) (b10 : Nat) (b11 : Nat) (b12 : Nat) (b13 : Nat) (b14 : Nat) (b15 : Nat) (mt : Nat) (mf : Nat) (my : Nat) (mw : Bool) (len : Nat → Nat) (ev : Nat → Nat) (a : Nat) (b : Nat) (ht : mt ≤ 20) (hl : ∀ t, t < mt → len t ≤ 15) (he : ∀ t, t < mt → ∀ i, i < len t → ev (15 * t + i) < 7) (ha : a < 7) (hb : b < 7) : fk_C E fy_Md_relation prog_8_method_8_code 3 (some .int) 1 0 0 [.ref b0, .int (nI a), .int (nI b)] [(b0, .inr (6, [.int (nI mt), .ref b1, .ref b2, .ref b3, .ref b4, .ref b5, .ref b6, .ref b7, .ref b8, .ref b9, .int (nI mf), .ref b10, .ref b11, .ref b12, .int (nI my), .int (nI (Bool.toNat mw)), .ref b13, .ref b14, .ref b15])), fk_ai E b1 20 len, fk_ai E b2 300 ev] (S := Unit) (fun _ => some (.int (nI (Bool.toNat (fg_fl mt len ev a b) + 2 * Bool.toNat (fg_fl mt len ev b a))))) (fun _ => True) (fun _ => [(b0, .inr (6, [.int (nI mt), .ref b1, .ref b2, .ref b3, .ref b4, .ref b5, .ref b6, .ref b7, .ref b8, .ref b9, .int (nI mf), .ref b10, .ref b11, .ref b12, .int (nI my), .int (nI (Bool.toNat mw)), .ref b13, .ref b14, .ref b15])), fk_ai E b1 20 len, fk_ai E b2 300 ev]) := by
  refine fk_enterI (v := fun _ => (nI (Bool.toNat (fg_fl mt len ev a b) + 2 * Bool.toNat (fg_fl mt len ev b a)))) (by decide) (Nat.le_of_ble_eq_true rfl) (lv0 := [(0, .ref b0), (1, .int (nI a)), (2, .int (nI b))]) rfl ?_
  intro K hini hret
  refine fk_iload_n 1 d_Md_relation_0 rfl ?_
  refine fk_if_lt (by omega) d_Md_relation_1 rfl ?_
  refine fk_iload_n 1 d_Md_relation_4 rfl ?_
  refine fk_bipush (v := nI 6) d_Md_relation_5 (by decide +kernel) ?_
  refine fk_icmp_gt (a := a) (b := 6) (by omega) (by omega) d_Md_relation_7 rfl (fun h7t => ?_) (fun h7f => ?_)
  · omega
  · refine fk_iload_n 2 d_Md_relation_10 rfl ?_
    refine fk_if_lt (by omega) d_Md_relation_11 rfl ?_
    refine fk_iload_n 2 d_Md_relation_14 rfl ?_
    refine fk_bipush (v := nI 6) d_Md_relation_15 (by decide +kernel) ?_
    refine fk_icmp_le (a := b) (b := 6) (by omega) (by omega) d_Md_relation_17 rfl (fun h17t => ?_) (fun h17f => ?_)
    · refine fk_aload_n 0 d_Md_relation_22 rfl ?_
      refine fk_iload_n 1 d_Md_relation_23 rfl ?_
      refine fk_iload_n 2 d_Md_relation_24 rfl ?_
      refine fk_callV (q0 := 0) (As := [.int (nI a), .int (nI b)]) (rest := []) (is := [0, 1, 2]) (ir := []) (ip := [0, 1, 2]) (wc := [(b0, .inr (6, [.int (nI mt), .ref b1, .ref b2, .ref b3, .ref b4, .ref b5, .ref b6, .ref b7, .ref b8, .ref b9, .int (nI mf), .ref b10, .ref b11, .ref b12, .int (nI my), .int (nI (Bool.toNat mw)), .ref b13, .ref b14, .ref b15])), fk_ai E b1 20 len, fk_ai E b2 300 ev]) (wr := []) (w2 := fun _ => [(b0, .inr (6, [.int (nI mt), .ref b1, .ref b2, .ref b3, .ref b4, .ref b5, .ref b6, .ref b7, .ref b8, .ref b9, .int (nI mf), .ref b10, .ref b11, .ref b12, .int (nI my), .int (nI (Bool.toNat mw)), .ref b13, .ref b14, .ref b15])), fk_ai E b1 20 len, fk_ai E b2 300 ev]) (cD_followed E b0 b1 b2 b3 b4 b5 b6 b7 b8 b9 b10 b11 b12 b13 b14 b15 mt mf my mw len ev a b (by first | omega | assumption) hl he (by first | omega | assumption) (by first | omega | assumption)) d_Md_relation_25 fz_Md_followed fw_591 rfl rfl fw_593 fw_p16 ⟨Nat.le_of_ble_eq_true rfl, Nat.le_of_ble_eq_true rfl⟩ rfl (Nat.le_of_ble_eq_true rfl) ⟨Nat.zero_le _, Nat.zero_le _⟩ ⟨rfl, rfl, rfl, rfl, by decide, fun _ => rfl, rfl⟩ (fun u hu25 => ?_)
      show fk_V E _ K (0, 0) [(b0, .inr (6, [.int (nI mt), .ref b1, .ref b2, .ref b3, .ref b4, .ref b5, .ref b6, .ref b7, .ref b8, .ref b9, .int (nI mf), .ref b10, .ref b11, .ref b12, .int (nI my), .int (nI (Bool.toNat mw)), .ref b13, .ref b14, .ref b15])), fk_ai E b1 20 len, fk_ai E b2 300 ev] 28 [(0, .ref b0), (1, .int (nI a)), (2, .int (nI b))] [.int (nI (Bool.toNat (fg_fl mt len ev a b)))]
      refine fk_if_eqB (b := (fg_fl mt len ev a b)) d_Md_relation_28 rfl (fun h28t => ?_) (fun h28f => ?_)
      · refine fk_iconst (v := nI 0) d_Md_relation_35 (by decide +kernel) ?_
        refine fk_aload_n 0 d_Md_relation_36 rfl ?_
        refine fk_iload_n 2 d_Md_relation_37 rfl ?_
        refine fk_iload_n 1 d_Md_relation_38 rfl ?_
        refine fk_callV (q0 := 0) (As := [.int (nI b), .int (nI a)]) (rest := [.int (nI 0)]) (is := [0, 1, 2]) (ir := []) (ip := [0, 1, 2]) (wc := [(b0, .inr (6, [.int (nI mt), .ref b1, .ref b2, .ref b3, .ref b4, .ref b5, .ref b6, .ref b7, .ref b8, .ref b9, .int (nI mf), .ref b10, .ref b11, .ref b12, .int (nI my), .int (nI (Bool.toNat mw)), .ref b13, .ref b14, .ref b15])), fk_ai E b1 20 len, fk_ai E b2 300 ev]) (wr := []) (w2 := fun _ => [(b0, .inr (6, [.int (nI mt), .ref b1, .ref b2, .ref b3, .ref b4, .ref b5, .ref b6, .ref b7, .ref b8, .ref b9, .int (nI mf), .ref b10, .ref b11, .ref b12, .int (nI my), .int (nI (Bool.toNat mw)), .ref b13, .ref b14, .ref b15])), fk_ai E b1 20 len, fk_ai E b2 300 ev]) (cD_followed E b0 b1 b2 b3 b4 b5 b6 b7 b8 b9 b10 b11 b12 b13 b14 b15 mt mf my mw len ev b a (by first | omega | assumption) hl he (by first | omega | assumption) (by first | omega | assumption)) d_Md_relation_39 fz_Md_followed fw_591 rfl rfl fw_593 fw_p16 ⟨Nat.le_of_ble_eq_true rfl, Nat.le_of_ble_eq_true rfl⟩ rfl (Nat.le_of_ble_eq_true rfl) ⟨Nat.zero_le _, Nat.zero_le _⟩ ⟨rfl, rfl, rfl, rfl, by decide, fun _ => rfl, rfl⟩ (fun u hu39 => ?_)
        show fk_V E _ K (0, 0) [(b0, .inr (6, [.int (nI mt), .ref b1, .ref b2, .ref b3, .ref b4, .ref b5, .ref b6, .ref b7, .ref b8, .ref b9, .int (nI mf), .ref b10, .ref b11, .ref b12, .int (nI my), .int (nI (Bool.toNat mw)), .ref b13, .ref b14, .ref b15])), fk_ai E b1 20 len, fk_ai E b2 300 ev] 42 [(0, .ref b0), (1, .int (nI a)), (2, .int (nI b))] [.int (nI (Bool.toNat (fg_fl mt len ev b a))), .int (nI 0)]
        refine fk_if_eqB (b := (fg_fl mt len ev b a)) d_Md_relation_42 rfl (fun h42t => ?_) (fun h42f => ?_)
        · refine fk_iconst (v := nI 0) d_Md_relation_49 (by decide +kernel) ?_
          refine fk_iadd (a := 0) (b := 0) d_Md_relation_50 ?_
          refine fk_top (show nI (0 + 0) = nI 0 by decide +kernel) ?_
          refine fk_top (congrArg nI (show 0 = Bool.toNat (fg_fl mt len ev a b) + 2 * Bool.toNat (fg_fl mt len ev b a) from by first | (rw [h28t, h42t]; rfl) | (rw [h28t, h42f]; rfl) | (rw [h28f, h42t]; rfl) | (rw [h28f, h42f]; rfl))) ?_
          exact hret (0, 0) _ 51 _ () d_Md_relation_51 (trivial) (rfl)
        · refine fk_iconst (v := nI 2) d_Md_relation_45 (by decide +kernel) ?_
          refine fk_goto d_Md_relation_46 rfl ?_
          refine fk_iadd (a := 0) (b := 2) d_Md_relation_50 ?_
          refine fk_top (show nI (0 + 2) = nI 2 by decide +kernel) ?_
          refine fk_top (congrArg nI (show 2 = Bool.toNat (fg_fl mt len ev a b) + 2 * Bool.toNat (fg_fl mt len ev b a) from by first | (rw [h28t, h42t]; rfl) | (rw [h28t, h42f]; rfl) | (rw [h28f, h42t]; rfl) | (rw [h28f, h42f]; rfl))) ?_
          exact hret (0, 0) _ 51 _ () d_Md_relation_51 (trivial) (rfl)
      · refine fk_iconst (v := nI 1) d_Md_relation_31 (by decide +kernel) ?_
        refine fk_goto d_Md_relation_32 rfl ?_
        refine fk_aload_n 0 d_Md_relation_36 rfl ?_
        refine fk_iload_n 2 d_Md_relation_37 rfl ?_
        refine fk_iload_n 1 d_Md_relation_38 rfl ?_
        refine fk_callV (q0 := 0) (As := [.int (nI b), .int (nI a)]) (rest := [.int (nI 1)]) (is := [0, 1, 2]) (ir := []) (ip := [0, 1, 2]) (wc := [(b0, .inr (6, [.int (nI mt), .ref b1, .ref b2, .ref b3, .ref b4, .ref b5, .ref b6, .ref b7, .ref b8, .ref b9, .int (nI mf), .ref b10, .ref b11, .ref b12, .int (nI my), .int (nI (Bool.toNat mw)), .ref b13, .ref b14, .ref b15])), fk_ai E b1 20 len, fk_ai E b2 300 ev]) (wr := []) (w2 := fun _ => [(b0, .inr (6, [.int (nI mt), .ref b1, .ref b2, .ref b3, .ref b4, .ref b5, .ref b6, .ref b7, .ref b8, .ref b9, .int (nI mf), .ref b10, .ref b11, .ref b12, .int (nI my), .int (nI (Bool.toNat mw)), .ref b13, .ref b14, .ref b15])), fk_ai E b1 20 len, fk_ai E b2 300 ev]) (cD_followed E b0 b1 b2 b3 b4 b5 b6 b7 b8 b9 b10 b11 b12 b13 b14 b15 mt mf my mw len ev b a (by first | omega | assumption) hl he (by first | omega | assumption) (by first | omega | assumption)) d_Md_relation_39 fz_Md_followed fw_591 rfl rfl fw_593 fw_p16 ⟨Nat.le_of_ble_eq_true rfl, Nat.le_of_ble_eq_true rfl⟩ rfl (Nat.le_of_ble_eq_true rfl) ⟨Nat.zero_le _, Nat.zero_le _⟩ ⟨rfl, rfl, rfl, rfl, by decide, fun _ => rfl, rfl⟩ (fun u hu39 => ?_)
        show fk_V E _ K (0, 0) [(b0, .inr (6, [.int (nI mt), .ref b1, .ref b2, .ref b3, .ref b4, .ref b5, .ref b6, .ref b7, .ref b8, .ref b9, .int (nI mf), .ref b10, .ref b11, .ref b12, .int (nI my), .int (nI (Bool.toNat mw)), .ref b13, .ref b14, .ref b15])), fk_ai E b1 20 len, fk_ai E b2 300 ev] 42 [(0, .ref b0), (1, .int (nI a)), (2, .int (nI b))] [.int (nI (Bool.toNat (fg_fl mt len ev b a))), .int (nI 1)]
        refine fk_if_eqB (b := (fg_fl mt len ev b a)) d_Md_relation_42 rfl (fun h42t => ?_) (fun h42f => ?_)
        · refine fk_iconst (v := nI 0) d_Md_relation_49 (by decide +kernel) ?_
          refine fk_iadd (a := 1) (b := 0) d_Md_relation_50 ?_
          refine fk_top (show nI (1 + 0) = nI 1 by decide +kernel) ?_
          refine fk_top (congrArg nI (show 1 = Bool.toNat (fg_fl mt len ev a b) + 2 * Bool.toNat (fg_fl mt len ev b a) from by first | (rw [h28t, h42t]; rfl) | (rw [h28t, h42f]; rfl) | (rw [h28f, h42t]; rfl) | (rw [h28f, h42f]; rfl))) ?_
          exact hret (0, 0) _ 51 _ () d_Md_relation_51 (trivial) (rfl)
        · refine fk_iconst (v := nI 2) d_Md_relation_45 (by decide +kernel) ?_
          refine fk_goto d_Md_relation_46 rfl ?_
          refine fk_iadd (a := 1) (b := 2) d_Md_relation_50 ?_
          refine fk_top (show nI (1 + 2) = nI 3 by decide +kernel) ?_
          refine fk_top (congrArg nI (show 3 = Bool.toNat (fg_fl mt len ev a b) + 2 * Bool.toNat (fg_fl mt len ev b a) from by first | (rw [h28t, h42t]; rfl) | (rw [h28t, h42f]; rfl) | (rw [h28f, h42t]; rfl) | (rw [h28f, h42f]; rfl))) ?_
          exact hret (0, 0) _ 51 _ () d_Md_relation_51 (trivial) (rfl)
    · omega
set_option maxRecDepth 20000 in
set_option maxHeartbeats 4000000 in
theorem cD_relationO (E : fk_E) (b0 : Nat) (b1 : Nat) (b2 : Nat) (b3 : Nat) (b4 : Nat) (b5 : Nat) (b6 : Nat) (b7 : Nat) (b8 : Nat) (b9 : Nat) (b10 : Nat) (b11 : Nat) (b12 : Nat) (b13 : Nat) (b14 : Nat) (b15 : Nat) (mt : Nat) (mf : Nat) (my : Nat) (mw : Bool) (len : Nat → Nat) (ev : Nat → Nat) (a : Nat) (b : Nat) (h : 7 ≤ a ∨ 7 ≤ b) (ha : a < 2 ^ 31) (hb : b < 2 ^ 31) : fk_C E fy_Md_relation prog_8_method_8_code 3 (some .int) 1 0 0 [.ref b0, .int (nI a), .int (nI b)] [(b0, .inr (6, [.int (nI mt), .ref b1, .ref b2, .ref b3, .ref b4, .ref b5, .ref b6, .ref b7, .ref b8, .ref b9, .int (nI mf), .ref b10, .ref b11, .ref b12, .int (nI my), .int (nI (Bool.toNat mw)), .ref b13, .ref b14, .ref b15])), fk_ai E b1 20 len, fk_ai E b2 300 ev] (S := Unit) (fun _ => some (.int (nI 0 - 1))) (fun _ => True) (fun _ => [(b0, .inr (6, [.int (nI mt), .ref b1, .ref b2, .ref b3, .ref b4, .ref b5, .ref b6, .ref b7, .ref b8, .ref b9, .int (nI mf), .ref b10, .ref b11, .ref b12, .int (nI my), .int (nI (Bool.toNat mw)), .ref b13, .ref b14, .ref b15])), fk_ai E b1 20 len, fk_ai E b2 300 ev]) := by
  refine fk_enterI (v := fun _ => (nI 0 - 1)) (by decide) (Nat.le_of_ble_eq_true rfl) (lv0 := [(0, .ref b0), (1, .int (nI a)), (2, .int (nI b))]) rfl ?_
  intro K hini hret
  refine fk_iload_n 1 d_Md_relation_0 rfl ?_
  refine fk_if_lt (by omega) d_Md_relation_1 rfl ?_
  refine fk_iload_n 1 d_Md_relation_4 rfl ?_
  refine fk_bipush (v := nI 6) d_Md_relation_5 (by decide +kernel) ?_
  refine fk_icmp_gt (a := a) (b := 6) (by omega) (by omega) d_Md_relation_7 rfl (fun h7t => ?_) (fun h7f => ?_)
  · refine fk_iconst (v := nI 0 - 1) d_Md_relation_20 (by decide +kernel) ?_
    exact hret (0, 0) _ 21 _ () d_Md_relation_21 (trivial) (rfl)
  · refine fk_iload_n 2 d_Md_relation_10 rfl ?_
    refine fk_if_lt (by omega) d_Md_relation_11 rfl ?_
    refine fk_iload_n 2 d_Md_relation_14 rfl ?_
    refine fk_bipush (v := nI 6) d_Md_relation_15 (by decide +kernel) ?_
    refine fk_icmp_le (a := b) (b := 6) (by omega) (by omega) d_Md_relation_17 rfl (fun h17t => ?_) (fun h17f => ?_)
    · omega
    · refine fk_iconst (v := nI 0 - 1) d_Md_relation_20 (by decide +kernel) ?_
      exact hret (0, 0) _ 21 _ () d_Md_relation_21 (trivial) (rfl)
set_option maxRecDepth 20000 in
set_option maxHeartbeats 4000000 in
theorem cD_relationM (E : fk_E) (b0 : Nat) (b1 : Nat) (b2 : Nat) (b3 : Nat) (b4 : Nat) (b5 : Nat) (b6 : Nat) (b7 : Nat) (b8 : Nat) (b9 : Nat) (b10 : Nat) (b11 : Nat) (b12 : Nat) (b13 : Nat) (b14 : Nat) (b15 : Nat) (mt : Nat) (mf : Nat) (my : Nat) (mw : Bool) (len : Nat → Nat) (ev : Nat → Nat) (x : Int32) (y : Int32) (hx : x < 0) : fk_C E fy_Md_relation prog_8_method_8_code 3 (some .int) 1 0 0 [.ref b0, .int x, .int y] [(b0, .inr (6, [.int (nI mt), .ref b1, .ref b2, .ref b3, .ref b4, .ref b5, .ref b6, .ref b7, .ref b8, .ref b9, .int (nI mf), .ref b10, .ref b11, .ref b12, .int (nI my), .int (nI (Bool.toNat mw)), .ref b13, .ref b14, .ref b15])), fk_ai E b1 20 len, fk_ai E b2 300 ev] (S := Unit) (fun _ => some (.int (nI 0 - 1))) (fun _ => True) (fun _ => [(b0, .inr (6, [.int (nI mt), .ref b1, .ref b2, .ref b3, .ref b4, .ref b5, .ref b6, .ref b7, .ref b8, .ref b9, .int (nI mf), .ref b10, .ref b11, .ref b12, .int (nI my), .int (nI (Bool.toNat mw)), .ref b13, .ref b14, .ref b15])), fk_ai E b1 20 len, fk_ai E b2 300 ev]) := by
  refine fk_enterI (v := fun _ => (nI 0 - 1)) (by decide) (Nat.le_of_ble_eq_true rfl) (lv0 := [(0, .ref b0), (1, .int x), (2, .int y)]) rfl ?_
  intro K hini hret
  refine fk_iload_n 1 d_Md_relation_0 rfl ?_
  refine fk_if_ltR d_Md_relation_1 rfl (fun h1t => ?_) (fun h1f => ?_)
  · refine fk_iconst (v := nI 0 - 1) d_Md_relation_20 (by decide +kernel) ?_
    exact hret (0, 0) _ 21 _ () d_Md_relation_21 (trivial) (rfl)
  · exact absurd hx h1f
set_option maxRecDepth 20000 in
set_option maxHeartbeats 4000000 in
theorem cD_relationN (E : fk_E) (b0 : Nat) (b1 : Nat) (b2 : Nat) (b3 : Nat) (b4 : Nat) (b5 : Nat) (b6 : Nat) (b7 : Nat) (b8 : Nat) (b9 : Nat) (b10 : Nat) (b11 : Nat) (b12 : Nat) (b13 : Nat) (b14 : Nat) (b15 : Nat) (mt : Nat) (mf : Nat) (my : Nat) (mw : Bool) (len : Nat → Nat) (ev : Nat → Nat) (a : Nat) (y : Int32) (ha : a < 2 ^ 31) (hx : y < 0) : fk_C E fy_Md_relation prog_8_method_8_code 3 (some .int) 1 0 0 [.ref b0, .int (nI a), .int y] [(b0, .inr (6, [.int (nI mt), .ref b1, .ref b2, .ref b3, .ref b4, .ref b5, .ref b6, .ref b7, .ref b8, .ref b9, .int (nI mf), .ref b10, .ref b11, .ref b12, .int (nI my), .int (nI (Bool.toNat mw)), .ref b13, .ref b14, .ref b15])), fk_ai E b1 20 len, fk_ai E b2 300 ev] (S := Unit) (fun _ => some (.int (nI 0 - 1))) (fun _ => True) (fun _ => [(b0, .inr (6, [.int (nI mt), .ref b1, .ref b2, .ref b3, .ref b4, .ref b5, .ref b6, .ref b7, .ref b8, .ref b9, .int (nI mf), .ref b10, .ref b11, .ref b12, .int (nI my), .int (nI (Bool.toNat mw)), .ref b13, .ref b14, .ref b15])), fk_ai E b1 20 len, fk_ai E b2 300 ev]) := by
  refine fk_enterI (v := fun _ => (nI 0 - 1)) (by decide) (Nat.le_of_ble_eq_true rfl) (lv0 := [(0, .ref b0), (1, .int (nI a)), (2, .int y)]) rfl ?_
  intro K hini hret
  refine fk_iload_n 1 d_Md_relation_0 rfl ?_
  refine fk_if_lt (by omega) d_Md_relation_1 rfl ?_
  refine fk_iload_n 1 d_Md_relation_4 rfl ?_
  refine fk_bipush (v := nI 6) d_Md_relation_5 (by decide +kernel) ?_
  refine fk_icmp_gt (a := a) (b := 6) (by omega) (by omega) d_Md_relation_7 rfl (fun h7t => ?_) (fun h7f => ?_)
  · refine fk_iconst (v := nI 0 - 1) d_Md_relation_20 (by decide +kernel) ?_
    exact hret (0, 0) _ 21 _ () d_Md_relation_21 (trivial) (rfl)
  · refine fk_iload_n 2 d_Md_relation_10 rfl ?_
    refine fk_if_ltR d_Md_relation_11 rfl (fun h11t => ?_) (fun h11f => ?_)
    · refine fk_iconst (v := nI 0 - 1) d_Md_relation_20 (by decide +kernel) ?_
      exact hret (0, 0) _ 21 _ () d_Md_relation_21 (trivial) (rfl)
    · exact absurd hx h11f
theorem d_Md_notNet_0 : decode prog_8_method_13_code 0 = .ok (.iload_n 0, 1) := by decide +kernel
theorem d_Md_notNet_1 : decode prog_8_method_13_code 1 = .ok (.ifCond .lt 8, 3) := by decide +kernel
theorem d_Md_notNet_4 : decode prog_8_method_13_code 4 = .ok (.iload_n 0, 1) := by decide +kernel
theorem d_Md_notNet_5 : decode prog_8_method_13_code 5 = .ok (.iconst 1, 1) := by decide +kernel
theorem d_Md_notNet_6 : decode prog_8_method_13_code 6 = .ok (.if_icmp .le 7, 3) := by decide +kernel
theorem d_Md_notNet_9 : decode prog_8_method_13_code 9 = .ok (.iconst 1, 1) := by decide +kernel
theorem d_Md_notNet_10 : decode prog_8_method_13_code 10 = .ok (.goto 4, 3) := by decide +kernel
theorem d_Md_notNet_13 : decode prog_8_method_13_code 13 = .ok (.iconst 0, 1) := by decide +kernel
theorem d_Md_notNet_14 : decode prog_8_method_13_code 14 = .ok (.ireturn, 1) := by decide +kernel
set_option maxRecDepth 20000 in
set_option maxHeartbeats 4000000 in
theorem cD_notNet (E : fk_E) (q : Nat) (hq : q < 2 ^ 31) : fk_C E fy_Md_notNet prog_8_method_13_code 1 (some .boolean) 0 0 0 [.int (nI q)] [] (S := Unit) (fun _ => some (.int (nI (Bool.toNat (decide (2 ≤ q)))))) (fun _ => True) (fun _ => []) := by
  refine fk_enterZ (v := fun _ => decide (2 ≤ q)) (by decide) (Nat.le_of_ble_eq_true rfl) (lv0 := [(0, .int (nI q))]) rfl ?_
  intro K hini hret
  refine fk_iload_n 0 d_Md_notNet_0 rfl ?_
  refine fk_if_lt (by omega) d_Md_notNet_1 rfl ?_
  refine fk_iload_n 0 d_Md_notNet_4 rfl ?_
  refine fk_iconst (v := nI 1) d_Md_notNet_5 (by decide +kernel) ?_
  refine fk_icmp_le (a := q) (b := 1) (by omega) (by omega) d_Md_notNet_6 rfl (fun h6t => ?_) (fun h6f => ?_)
  · refine fk_iconst (v := nI 0) d_Md_notNet_13 (by decide +kernel) ?_
    refine fk_top (fn_rf (b := decide (2 ≤ q)) (by first | assumption | (simp; omega) | simp_all | (simp_all; omega))) ?_
    exact hret (0, 0) _ 14 _ () d_Md_notNet_14 (trivial) (rfl)
  · refine fk_iconst (v := nI 1) d_Md_notNet_9 (by decide +kernel) ?_
    refine fk_goto d_Md_notNet_10 rfl ?_
    refine fk_top (fn_rt (b := decide (2 ≤ q)) (by first | assumption | (simp; omega) | simp_all | (simp_all; omega))) ?_
    exact hret (0, 0) _ 14 _ () d_Md_notNet_14 (trivial) (rfl)
set_option maxRecDepth 20000 in
set_option maxHeartbeats 4000000 in
theorem cD_notNetM (E : fk_E) (x : Int32) (hx : x < 0) : fk_C E fy_Md_notNet prog_8_method_13_code 1 (some .boolean) 0 0 0 [.int x] [] (S := Unit) (fun _ => some (.int (nI (Bool.toNat true)))) (fun _ => True) (fun _ => []) := by
  refine fk_enterZ (v := fun _ => true) (by decide) (Nat.le_of_ble_eq_true rfl) (lv0 := [(0, .int x)]) rfl ?_
  intro K hini hret
  refine fk_iload_n 0 d_Md_notNet_0 rfl ?_
  refine fk_if_ltR d_Md_notNet_1 rfl (fun h1t => ?_) (fun h1f => ?_)
  · refine fk_iconst (v := nI 1) d_Md_notNet_9 (by decide +kernel) ?_
    refine fk_goto d_Md_notNet_10 rfl ?_
    refine fk_top (fn_rt (b := true) (by first | assumption | (simp; omega) | simp_all | (simp_all; omega))) ?_
    exact hret (0, 0) _ 14 _ () d_Md_notNet_14 (trivial) (rfl)
  · exact absurd hx h1f
