theorem d_Nt_placeCount_0 : decode prog_4_method_2_code 0 = .ok (.aload_n 0, 1) := by decide +kernel
theorem d_Nt_placeCount_1 : decode prog_4_method_2_code 1 = .ok (.getfield 25, 3) := by decide +kernel
theorem d_Nt_placeCount_4 : decode prog_4_method_2_code 4 = .ok (.ireturn, 1) := by decide +kernel
set_option maxRecDepth 20000 in
set_option maxHeartbeats 4000000 in
theorem cN_placeCount (E : fk_E) (n0 : Nat) (n1 : Nat) (n2 : Nat) (n3 : Nat) (n4 : Nat) (cnt : Nat) (fi : Nat) (la : Nat) (lo : Nat) (me : Nat)  : fk_C E fy_Nt_placeCount prog_4_method_2_code 1 (some .int) 0 0 0 [.ref n0] [(n0, .inr (2, [.ref n1, .ref n2, .ref n3, .ref n4, .int (nI cnt), .int (nI fi), .int (nI la), .int (nI lo), .int (nI me)]))] (S := Unit) (fun _ => some (.int (nI cnt))) (fun _ => True) (fun _ => [(n0, .inr (2, [.ref n1, .ref n2, .ref n3, .ref n4, .int (nI cnt), .int (nI fi), .int (nI la), .int (nI lo), .int (nI me)]))]) := by
  refine fk_enterI (v := fun _ => (nI cnt)) (by decide) (Nat.le_of_ble_eq_true rfl) (lv0 := [(0, .ref n0)]) rfl ?_
  intro K hini hret
  refine fk_aload_n 0 d_Nt_placeCount_0 rfl ?_
  refine fk_get 0 4 rfl rfl fh_Nt (Nat.le_of_ble_eq_true rfl) fw_48 rfl d_Nt_placeCount_1 ?_
  exact hret (0, 0) _ 4 _ () d_Nt_placeCount_4 (trivial) (rfl)
theorem d_Nt_firstOnes_0 : decode prog_4_method_5_code 0 = .ok (.aload_n 0, 1) := by decide +kernel
theorem d_Nt_firstOnes_1 : decode prog_4_method_5_code 1 = .ok (.getfield 29, 3) := by decide +kernel
theorem d_Nt_firstOnes_4 : decode prog_4_method_5_code 4 = .ok (.ireturn, 1) := by decide +kernel
set_option maxRecDepth 20000 in
set_option maxHeartbeats 4000000 in
theorem cN_firstOnes (E : fk_E) (n0 : Nat) (n1 : Nat) (n2 : Nat) (n3 : Nat) (n4 : Nat) (cnt : Nat) (fi : Nat) (la : Nat) (lo : Nat) (me : Nat)  : fk_C E fy_Nt_firstOnes prog_4_method_5_code 1 (some .int) 0 0 0 [.ref n0] [(n0, .inr (2, [.ref n1, .ref n2, .ref n3, .ref n4, .int (nI cnt), .int (nI fi), .int (nI la), .int (nI lo), .int (nI me)]))] (S := Unit) (fun _ => some (.int (nI fi))) (fun _ => True) (fun _ => [(n0, .inr (2, [.ref n1, .ref n2, .ref n3, .ref n4, .int (nI cnt), .int (nI fi), .int (nI la), .int (nI lo), .int (nI me)]))]) := by
  refine fk_enterI (v := fun _ => (nI fi)) (by decide) (Nat.le_of_ble_eq_true rfl) (lv0 := [(0, .ref n0)]) rfl ?_
  intro K hini hret
  refine fk_aload_n 0 d_Nt_firstOnes_0 rfl ?_
  refine fk_get 0 5 rfl rfl fh_Nt (Nat.le_of_ble_eq_true rfl) fw_49 rfl d_Nt_firstOnes_1 ?_
  exact hret (0, 0) _ 4 _ () d_Nt_firstOnes_4 (trivial) (rfl)
theorem d_Nt_lastOnes_0 : decode prog_4_method_6_code 0 = .ok (.aload_n 0, 1) := by decide +kernel
theorem d_Nt_lastOnes_1 : decode prog_4_method_6_code 1 = .ok (.getfield 32, 3) := by decide +kernel
theorem d_Nt_lastOnes_4 : decode prog_4_method_6_code 4 = .ok (.ireturn, 1) := by decide +kernel
set_option maxRecDepth 20000 in
set_option maxHeartbeats 4000000 in
theorem cN_lastOnes (E : fk_E) (n0 : Nat) (n1 : Nat) (n2 : Nat) (n3 : Nat) (n4 : Nat) (cnt : Nat) (fi : Nat) (la : Nat) (lo : Nat) (me : Nat)  : fk_C E fy_Nt_lastOnes prog_4_method_6_code 1 (some .int) 0 0 0 [.ref n0] [(n0, .inr (2, [.ref n1, .ref n2, .ref n3, .ref n4, .int (nI cnt), .int (nI fi), .int (nI la), .int (nI lo), .int (nI me)]))] (S := Unit) (fun _ => some (.int (nI la))) (fun _ => True) (fun _ => [(n0, .inr (2, [.ref n1, .ref n2, .ref n3, .ref n4, .int (nI cnt), .int (nI fi), .int (nI la), .int (nI lo), .int (nI me)]))]) := by
  refine fk_enterI (v := fun _ => (nI la)) (by decide) (Nat.le_of_ble_eq_true rfl) (lv0 := [(0, .ref n0)]) rfl ?_
  intro K hini hret
  refine fk_aload_n 0 d_Nt_lastOnes_0 rfl ?_
  refine fk_get 0 6 rfl rfl fh_Nt (Nat.le_of_ble_eq_true rfl) fw_50 rfl d_Nt_lastOnes_1 ?_
  exact hret (0, 0) _ 4 _ () d_Nt_lastOnes_4 (trivial) (rfl)
theorem d_Nt_activitySet_0 : decode prog_4_method_7_code 0 = .ok (.aload_n 0, 1) := by decide +kernel
theorem d_Nt_activitySet_1 : decode prog_4_method_7_code 1 = .ok (.getfield 38, 3) := by decide +kernel
theorem d_Nt_activitySet_4 : decode prog_4_method_7_code 4 = .ok (.ireturn, 1) := by decide +kernel
set_option maxRecDepth 20000 in
set_option maxHeartbeats 4000000 in
theorem cN_activitySet (E : fk_E) (n0 : Nat) (n1 : Nat) (n2 : Nat) (n3 : Nat) (n4 : Nat) (cnt : Nat) (fi : Nat) (la : Nat) (lo : Nat) (me : Nat)  : fk_C E fy_Nt_activitySet prog_4_method_7_code 1 (some .int) 0 0 0 [.ref n0] [(n0, .inr (2, [.ref n1, .ref n2, .ref n3, .ref n4, .int (nI cnt), .int (nI fi), .int (nI la), .int (nI lo), .int (nI me)]))] (S := Unit) (fun _ => some (.int (nI me))) (fun _ => True) (fun _ => [(n0, .inr (2, [.ref n1, .ref n2, .ref n3, .ref n4, .int (nI cnt), .int (nI fi), .int (nI la), .int (nI lo), .int (nI me)]))]) := by
  refine fk_enterI (v := fun _ => (nI me)) (by decide) (Nat.le_of_ble_eq_true rfl) (lv0 := [(0, .ref n0)]) rfl ?_
  intro K hini hret
  refine fk_aload_n 0 d_Nt_activitySet_0 rfl ?_
  refine fk_get 0 8 rfl rfl fh_Nt (Nat.le_of_ble_eq_true rfl) fw_52 rfl d_Nt_activitySet_1 ?_
  exact hret (0, 0) _ 4 _ () d_Nt_activitySet_4 (trivial) (rfl)
theorem d_Nt_inputsOf_0 : decode prog_4_method_3_code 0 = .ok (.aload_n 0, 1) := by decide +kernel
theorem d_Nt_inputsOf_1 : decode prog_4_method_3_code 1 = .ok (.getfield 9, 3) := by decide +kernel
theorem d_Nt_inputsOf_4 : decode prog_4_method_3_code 4 = .ok (.iload_n 1, 1) := by decide +kernel
theorem d_Nt_inputsOf_5 : decode prog_4_method_3_code 5 = .ok (.iaload, 1) := by decide +kernel
theorem d_Nt_inputsOf_6 : decode prog_4_method_3_code 6 = .ok (.ireturn, 1) := by decide +kernel
set_option maxRecDepth 20000 in
set_option maxHeartbeats 4000000 in
theorem cN_inputsOf (E : fk_E) (n0 : Nat) (n1 : Nat) (n2 : Nat) (n3 : Nat) (n4 : Nat) (cnt : Nat) (fi : Nat) (la : Nat) (lo : Nat) (me : Nat) (ins : Nat → Nat) (k : Nat) (hk : k < 14) : fk_C E fy_Nt_inputsOf prog_4_method_3_code 2 (some .int) 0 0 0 [.ref n0, .int (nI k)] [(n0, .inr (2, [.ref n1, .ref n2, .ref n3, .ref n4, .int (nI cnt), .int (nI fi), .int (nI la), .int (nI lo), .int (nI me)])), fk_ai E n1 14 ins] (S := Unit) (fun _ => some (.int (nI (ins k)))) (fun _ => True) (fun _ => [(n0, .inr (2, [.ref n1, .ref n2, .ref n3, .ref n4, .int (nI cnt), .int (nI fi), .int (nI la), .int (nI lo), .int (nI me)])), fk_ai E n1 14 ins]) := by
  refine fk_enterI (v := fun _ => (nI (ins k))) (by decide) (Nat.le_of_ble_eq_true rfl) (lv0 := [(0, .ref n0), (1, .int (nI k))]) rfl ?_
  intro K hini hret
  refine fk_aload_n 0 d_Nt_inputsOf_0 rfl ?_
  refine fk_get 0 0 rfl rfl fh_Nt (Nat.le_of_ble_eq_true rfl) fw_44 rfl d_Nt_inputsOf_1 ?_
  refine fk_iload_n 1 d_Nt_inputsOf_4 rfl ?_
  refine fk_ld_ai (i := k) 1 rfl (by omega) (by decide) d_Nt_inputsOf_5 ?_
  exact hret (0, 0) _ 6 _ () d_Nt_inputsOf_6 (trivial) (rfl)
theorem d_Nt_outputsOf_0 : decode prog_4_method_4_code 0 = .ok (.aload_n 0, 1) := by decide +kernel
theorem d_Nt_outputsOf_1 : decode prog_4_method_4_code 1 = .ok (.getfield 15, 3) := by decide +kernel
theorem d_Nt_outputsOf_4 : decode prog_4_method_4_code 4 = .ok (.iload_n 1, 1) := by decide +kernel
theorem d_Nt_outputsOf_5 : decode prog_4_method_4_code 5 = .ok (.iaload, 1) := by decide +kernel
theorem d_Nt_outputsOf_6 : decode prog_4_method_4_code 6 = .ok (.ireturn, 1) := by decide +kernel
set_option maxRecDepth 20000 in
set_option maxHeartbeats 4000000 in
theorem cN_outputsOf (E : fk_E) (n0 : Nat) (n1 : Nat) (n2 : Nat) (n3 : Nat) (n4 : Nat) (cnt : Nat) (fi : Nat) (la : Nat) (lo : Nat) (me : Nat) (outs : Nat → Nat) (k : Nat) (hk : k < 14) : fk_C E fy_Nt_outputsOf prog_4_method_4_code 2 (some .int) 0 0 0 [.ref n0, .int (nI k)] [(n0, .inr (2, [.ref n1, .ref n2, .ref n3, .ref n4, .int (nI cnt), .int (nI fi), .int (nI la), .int (nI lo), .int (nI me)])), fk_ai E n2 14 outs] (S := Unit) (fun _ => some (.int (nI (outs k)))) (fun _ => True) (fun _ => [(n0, .inr (2, [.ref n1, .ref n2, .ref n3, .ref n4, .int (nI cnt), .int (nI fi), .int (nI la), .int (nI lo), .int (nI me)])), fk_ai E n2 14 outs]) := by
  refine fk_enterI (v := fun _ => (nI (outs k))) (by decide) (Nat.le_of_ble_eq_true rfl) (lv0 := [(0, .ref n0), (1, .int (nI k))]) rfl ?_
  intro K hini hret
  refine fk_aload_n 0 d_Nt_outputsOf_0 rfl ?_
  refine fk_get 0 1 rfl rfl fh_Nt (Nat.le_of_ble_eq_true rfl) fw_45 rfl d_Nt_outputsOf_1 ?_
  refine fk_iload_n 1 d_Nt_outputsOf_4 rfl ?_
  refine fk_ld_ai (i := k) 1 rfl (by omega) (by decide) d_Nt_outputsOf_5 ?_
  exact hret (0, 0) _ 6 _ () d_Nt_outputsOf_6 (trivial) (rfl)
theorem d_Nt_hasPlace_0 : decode prog_4_method_8_code 0 = .ok (.iconst 0, 1) := by decide +kernel
theorem d_Nt_hasPlace_1 : decode prog_4_method_8_code 1 = .ok (.istore_n 3, 1) := by decide +kernel
theorem d_Nt_hasPlace_2 : decode prog_4_method_8_code 2 = .ok (.iload_n 3, 1) := by decide +kernel
theorem d_Nt_hasPlace_3 : decode prog_4_method_8_code 3 = .ok (.aload_n 0, 1) := by decide +kernel
theorem d_Nt_hasPlace_4 : decode prog_4_method_8_code 4 = .ok (.getfield 25, 3) := by decide +kernel
theorem d_Nt_hasPlace_7 : decode prog_4_method_8_code 7 = .ok (.if_icmp .ge 31, 3) := by decide +kernel
theorem d_Nt_hasPlace_10 : decode prog_4_method_8_code 10 = .ok (.aload_n 0, 1) := by decide +kernel
theorem d_Nt_hasPlace_11 : decode prog_4_method_8_code 11 = .ok (.getfield 9, 3) := by decide +kernel
theorem d_Nt_hasPlace_14 : decode prog_4_method_8_code 14 = .ok (.iload_n 3, 1) := by decide +kernel
theorem d_Nt_hasPlace_15 : decode prog_4_method_8_code 15 = .ok (.iaload, 1) := by decide +kernel
theorem d_Nt_hasPlace_16 : decode prog_4_method_8_code 16 = .ok (.iload_n 1, 1) := by decide +kernel
theorem d_Nt_hasPlace_17 : decode prog_4_method_8_code 17 = .ok (.if_icmp .ne 15, 3) := by decide +kernel
theorem d_Nt_hasPlace_20 : decode prog_4_method_8_code 20 = .ok (.aload_n 0, 1) := by decide +kernel
theorem d_Nt_hasPlace_21 : decode prog_4_method_8_code 21 = .ok (.getfield 15, 3) := by decide +kernel
theorem d_Nt_hasPlace_24 : decode prog_4_method_8_code 24 = .ok (.iload_n 3, 1) := by decide +kernel
theorem d_Nt_hasPlace_25 : decode prog_4_method_8_code 25 = .ok (.iaload, 1) := by decide +kernel
theorem d_Nt_hasPlace_26 : decode prog_4_method_8_code 26 = .ok (.iload_n 2, 1) := by decide +kernel
theorem d_Nt_hasPlace_27 : decode prog_4_method_8_code 27 = .ok (.if_icmp .ne 5, 3) := by decide +kernel
theorem d_Nt_hasPlace_30 : decode prog_4_method_8_code 30 = .ok (.iconst 1, 1) := by decide +kernel
theorem d_Nt_hasPlace_31 : decode prog_4_method_8_code 31 = .ok (.ireturn, 1) := by decide +kernel
theorem d_Nt_hasPlace_32 : decode prog_4_method_8_code 32 = .ok (.iinc 3 1, 3) := by decide +kernel
theorem d_Nt_hasPlace_35 : decode prog_4_method_8_code 35 = .ok (.goto (-33), 3) := by decide +kernel
theorem d_Nt_hasPlace_38 : decode prog_4_method_8_code 38 = .ok (.iconst 0, 1) := by decide +kernel
theorem d_Nt_hasPlace_39 : decode prog_4_method_8_code 39 = .ok (.ireturn, 1) := by decide +kernel
set_option maxRecDepth 20000 in
set_option maxHeartbeats 4000000 in
theorem cN_hasPlace (E : fk_E) (n0 : Nat) (n1 : Nat) (n2 : Nat) (n3 : Nat) (n4 : Nat) (cnt : Nat) (fi : Nat) (la : Nat) (lo : Nat) (me : Nat) (ins : Nat → Nat) (outs : Nat → Nat) (i : Nat) (o : Nat) (hc : cnt ≤ 14) (hb : ∀ j, j < cnt → ins j < 128 ∧ outs j < 128) (hi : i < 128) (ho : o < 128) : fk_C E fy_Nt_hasPlace prog_4_method_8_code 4 (some .boolean) 0 0 0 [.ref n0, .int (nI i), .int (nI o)] [(n0, .inr (2, [.ref n1, .ref n2, .ref n3, .ref n4, .int (nI cnt), .int (nI fi), .int (nI la), .int (nI lo), .int (nI me)])), fk_ai E n1 14 ins, fk_ai E n2 14 outs] (S := Unit) (fun _ => some (.int (nI (Bool.toNat (fs_any (fun z9 => decide (ins z9 = i) && decide (outs z9 = o)) cnt))))) (fun _ => True) (fun _ => [(n0, .inr (2, [.ref n1, .ref n2, .ref n3, .ref n4, .int (nI cnt), .int (nI fi), .int (nI la), .int (nI lo), .int (nI me)])), fk_ai E n1 14 ins, fk_ai E n2 14 outs]) := by
  refine fk_enterZ (v := fun _ => fs_any (fun z9 => decide (ins z9 = i) && decide (outs z9 = o)) cnt) (by decide) (Nat.le_of_ble_eq_true rfl) (lv0 := [(0, .ref n0), (1, .int (nI i)), (2, .int (nI o))]) rfl ?_
  intro K hini hret
  refine fk_iconst (v := nI 0) d_Nt_hasPlace_0 (by decide +kernel) ?_
  refine fk_istore_n (lv' := [(0, .ref n0), (1, .int (nI i)), (2, .int (nI o)), (3, .int (nI 0))]) d_Nt_hasPlace_1 rfl (Nat.le_of_ble_eq_true rfl) [1, 2, 3, 0] rfl ?_
  have L2 : ∀ (fuel : Nat) (k : Nat), (k ≤ cnt) → (∀ j, j < k → (decide (ins j = i) && decide (outs j = o)) = false) → cnt - k < fuel → fk_V E (prog_4_method_8_code, fy_Nt_hasPlace.cls, 4, fk_rm 0 0 0) K (0, 0) [(n0, .inr (2, [.ref n1, .ref n2, .ref n3, .ref n4, .int (nI cnt), .int (nI fi), .int (nI la), .int (nI lo), .int (nI me)])), fk_ai E n1 14 ins, fk_ai E n2 14 outs] 2 [(0, .ref n0), (1, .int (nI i)), (2, .int (nI o)), (3, .int (nI k))] [] := by
    intro fuel
    induction fuel with
    | zero => intro k _ _ hm; exact absurd hm (Nat.not_lt_zero _)
    | succ fuel ih =>
      intro k h1 h2 hm2
      have ih2 := ih
      clear ih
      refine fk_iload_n 3 d_Nt_hasPlace_2 rfl ?_
      refine fk_aload_n 0 d_Nt_hasPlace_3 rfl ?_
      refine fk_get 0 4 rfl rfl fh_Nt (Nat.le_of_ble_eq_true rfl) fw_48 rfl d_Nt_hasPlace_4 ?_
      refine fk_icmp_ge (a := k) (b := cnt) (by omega) (by omega) d_Nt_hasPlace_7 rfl (fun h7t => ?_) (fun h7f => ?_)
      · refine fk_iconst (v := nI 0) d_Nt_hasPlace_38 (by decide +kernel) ?_
        refine fk_top (fn_rf (b := fs_any (fun z9 => decide (ins z9 = i) && decide (outs z9 = o)) cnt) (fs_any_f.mpr (fun j hj => h2 j (by omega)))) ?_
        exact hret (0, 0) _ 39 _ () d_Nt_hasPlace_39 (trivial) (rfl)
      · have h9 := hb k (by omega)
        refine fk_aload_n 0 d_Nt_hasPlace_10 rfl ?_
        refine fk_get 0 0 rfl rfl fh_Nt (Nat.le_of_ble_eq_true rfl) fw_44 rfl d_Nt_hasPlace_11 ?_
        refine fk_iload_n 3 d_Nt_hasPlace_14 rfl ?_
        refine fk_ld_ai (i := k) 1 rfl (by omega) (by decide) d_Nt_hasPlace_15 ?_
        refine fk_iload_n 1 d_Nt_hasPlace_16 rfl ?_
        refine fk_icmp_ne (a := (ins k)) (b := i) (by omega) (by omega) d_Nt_hasPlace_17 rfl (fun h17t => ?_) (fun h17f => ?_)
        · refine fk_iinc (j := 3) (lv' := [(0, .ref n0), (1, .int (nI i)), (2, .int (nI o)), (3, .int (nI (k + 1)))]) (k + 1) d_Nt_hasPlace_32 rfl (nI_1 k) (Nat.le_of_ble_eq_true rfl) [1, 2, 3, 0] rfl ?_
          refine fk_goto d_Nt_hasPlace_35 rfl ?_
          refine ih2 _ ?_ ?_ ?_
          · first | omega | assumption | exact Nat.zero_le _
          · intro j hj
            rcases Nat.lt_or_ge j k with q | q
            · exact h2 j q
            · rw [show j = k by omega]
              first | rw [decide_eq_false h17t, Bool.false_and] | rw [decide_eq_false h27t, Bool.and_false]
          · omega
        · refine fk_aload_n 0 d_Nt_hasPlace_20 rfl ?_
          refine fk_get 0 1 rfl rfl fh_Nt (Nat.le_of_ble_eq_true rfl) fw_45 rfl d_Nt_hasPlace_21 ?_
          refine fk_iload_n 3 d_Nt_hasPlace_24 rfl ?_
          refine fk_ld_ai (i := k) 2 rfl (by omega) (by decide) d_Nt_hasPlace_25 ?_
          refine fk_iload_n 2 d_Nt_hasPlace_26 rfl ?_
          refine fk_icmp_ne (a := (outs k)) (b := o) (by omega) (by omega) d_Nt_hasPlace_27 rfl (fun h27t => ?_) (fun h27f => ?_)
          · refine fk_iinc (j := 3) (lv' := [(0, .ref n0), (1, .int (nI i)), (2, .int (nI o)), (3, .int (nI (k + 1)))]) (k + 1) d_Nt_hasPlace_32 rfl (nI_1 k) (Nat.le_of_ble_eq_true rfl) [1, 2, 3, 0] rfl ?_
            refine fk_goto d_Nt_hasPlace_35 rfl ?_
            refine ih2 _ ?_ ?_ ?_
            · first | omega | assumption | exact Nat.zero_le _
            · intro j hj
              rcases Nat.lt_or_ge j k with q | q
              · exact h2 j q
              · rw [show j = k by omega]
                first | rw [decide_eq_false h17t, Bool.false_and] | rw [decide_eq_false h27t, Bool.and_false]
            · omega
          · refine fk_iconst (v := nI 1) d_Nt_hasPlace_30 (by decide +kernel) ?_
            refine fk_top (fn_rt (b := fs_any (fun z9 => decide (ins z9 = i) && decide (outs z9 = o)) cnt) (fs_any_t h7f (by rw [decide_eq_true h17f, decide_eq_true h27f]; rfl))) ?_
            exact hret (0, 0) _ 31 _ () d_Nt_hasPlace_31 (trivial) (rfl)
  refine L2 _ _ ?_ ?_ (Nat.lt_succ_self _)
  · first | omega | assumption | exact Nat.zero_le _
  · exact fun j hj => absurd hj (Nat.not_lt_zero j)
theorem d_Nt_connect_0 : decode prog_4_method_14_code 0 = .ok (.aload_n 0, 1) := by decide +kernel
theorem d_Nt_connect_1 : decode prog_4_method_14_code 1 = .ok (.dup, 1) := by decide +kernel
theorem d_Nt_connect_2 : decode prog_4_method_14_code 2 = .ok (.getfield 38, 3) := by decide +kernel
theorem d_Nt_connect_5 : decode prog_4_method_14_code 5 = .ok (.iload_n 1, 1) := by decide +kernel
theorem d_Nt_connect_6 : decode prog_4_method_14_code 6 = .ok (.iload_n 2, 1) := by decide +kernel
theorem d_Nt_connect_7 : decode prog_4_method_14_code 7 = .ok (.ior, 1) := by decide +kernel
theorem d_Nt_connect_8 : decode prog_4_method_14_code 8 = .ok (.ior, 1) := by decide +kernel
theorem d_Nt_connect_9 : decode prog_4_method_14_code 9 = .ok (.putfield 38, 3) := by decide +kernel
theorem d_Nt_connect_12 : decode prog_4_method_14_code 12 = .ok (.iconst 0, 1) := by decide +kernel
theorem d_Nt_connect_13 : decode prog_4_method_14_code 13 = .ok (.istore 5, 2) := by decide +kernel
theorem d_Nt_connect_15 : decode prog_4_method_14_code 15 = .ok (.iload 5, 2) := by decide +kernel
theorem d_Nt_connect_17 : decode prog_4_method_14_code 17 = .ok (.bipush 7, 2) := by decide +kernel
theorem d_Nt_connect_19 : decode prog_4_method_14_code 19 = .ok (.if_icmp .ge 49, 3) := by decide +kernel
theorem d_Nt_connect_22 : decode prog_4_method_14_code 22 = .ok (.iload 5, 2) := by decide +kernel
theorem d_Nt_connect_24 : decode prog_4_method_14_code 24 = .ok (.iload_n 1, 1) := by decide +kernel
theorem d_Nt_connect_25 : decode prog_4_method_14_code 25 = .ok (.invokestatic 60, 3) := by decide +kernel
theorem d_Nt_connect_28 : decode prog_4_method_14_code 28 = .ok (.ifCond .eq 14, 3) := by decide +kernel
theorem d_Nt_connect_31 : decode prog_4_method_14_code 31 = .ok (.aload_n 0, 1) := by decide +kernel
theorem d_Nt_connect_32 : decode prog_4_method_14_code 32 = .ok (.getfield 22, 3) := by decide +kernel
theorem d_Nt_connect_35 : decode prog_4_method_14_code 35 = .ok (.iload 5, 2) := by decide +kernel
theorem d_Nt_connect_37 : decode prog_4_method_14_code 37 = .ok (.dup2, 1) := by decide +kernel
theorem d_Nt_connect_38 : decode prog_4_method_14_code 38 = .ok (.laload, 1) := by decide +kernel
theorem d_Nt_connect_39 : decode prog_4_method_14_code 39 = .ok (.lload_n 3, 1) := by decide +kernel
theorem d_Nt_connect_40 : decode prog_4_method_14_code 40 = .ok (.lor, 1) := by decide +kernel
theorem d_Nt_connect_41 : decode prog_4_method_14_code 41 = .ok (.lastore, 1) := by decide +kernel
theorem d_Nt_connect_42 : decode prog_4_method_14_code 42 = .ok (.iload 5, 2) := by decide +kernel
theorem d_Nt_connect_44 : decode prog_4_method_14_code 44 = .ok (.iload_n 2, 1) := by decide +kernel
theorem d_Nt_connect_45 : decode prog_4_method_14_code 45 = .ok (.invokestatic 60, 3) := by decide +kernel
theorem d_Nt_connect_48 : decode prog_4_method_14_code 48 = .ok (.ifCond .eq 14, 3) := by decide +kernel
theorem d_Nt_connect_51 : decode prog_4_method_14_code 51 = .ok (.aload_n 0, 1) := by decide +kernel
theorem d_Nt_connect_52 : decode prog_4_method_14_code 52 = .ok (.getfield 18, 3) := by decide +kernel
theorem d_Nt_connect_55 : decode prog_4_method_14_code 55 = .ok (.iload 5, 2) := by decide +kernel
theorem d_Nt_connect_57 : decode prog_4_method_14_code 57 = .ok (.dup2, 1) := by decide +kernel
theorem d_Nt_connect_58 : decode prog_4_method_14_code 58 = .ok (.laload, 1) := by decide +kernel
theorem d_Nt_connect_59 : decode prog_4_method_14_code 59 = .ok (.lload_n 3, 1) := by decide +kernel
theorem d_Nt_connect_60 : decode prog_4_method_14_code 60 = .ok (.lor, 1) := by decide +kernel
theorem d_Nt_connect_61 : decode prog_4_method_14_code 61 = .ok (.lastore, 1) := by decide +kernel
theorem d_Nt_connect_62 : decode prog_4_method_14_code 62 = .ok (.iinc 5 1, 3) := by decide +kernel
theorem d_Nt_connect_65 : decode prog_4_method_14_code 65 = .ok (.goto (-50), 3) := by decide +kernel
theorem d_Nt_connect_68 : decode prog_4_method_14_code 68 = .ok (.return_, 1) := by decide +kernel
set_option maxRecDepth 20000 in
set_option maxHeartbeats 4000000 in
theorem cN_connect (E : fk_E) (n0 : Nat) (n1 : Nat) (n2 : Nat) (n3 : Nat) (n4 : Nat) (cnt : Nat) (fi : Nat) (la : Nat) (lo : Nat) (me : Nat) (tk : Nat → Nat) (pu : Nat → Nat) (ip : Nat) (op : Nat) (tok : Nat) (hm : me < 128) (hi : ip < 128) (ho : op < 128) (ht : tok < 2 ^ 64) (hk : ∀ a, a < 7 → tk a < 2 ^ 64) (hu : ∀ a, a < 7 → pu a < 2 ^ 64) : fk_C E fy_Nt_connect prog_4_method_14_code 6 none 1 0 0 [.ref n0, .int (nI ip), .int (nI op), .long (lN tok)] [(n0, .inr (2, [.ref n1, .ref n2, .ref n3, .ref n4, .int (nI cnt), .int (nI fi), .int (nI la), .int (nI lo), .int (nI me)])), fk_al E n3 7 tk, fk_al E n4 7 pu] (S := (Nat → Nat) × (Nat → Nat)) (fun (u : (Nat → Nat) × (Nat → Nat)) => none) (fun (u : (Nat → Nat) × (Nat → Nat)) => ∀ a, a < 7 → u.1 a = (if Nat.testBit op a = true then tk a ||| tok else tk a) ∧ u.2 a = (if Nat.testBit ip a = true then pu a ||| tok else pu a)) (fun (u : (Nat → Nat) × (Nat → Nat)) => [(n0, .inr (2, [.ref n1, .ref n2, .ref n3, .ref n4, .int (nI cnt), .int (nI fi), .int (nI la), .int (nI lo), .int (nI (me ||| (ip ||| op)))])), fk_al E n3 7 u.1, fk_al E n4 7 u.2]) := by
  refine fk_enterV (by decide) (Nat.le_of_ble_eq_true rfl) (lv0 := [(0, .ref n0), (1, .int (nI ip)), (2, .int (nI op)), (3, .long (lN tok))]) rfl ?_
  intro K hini hret
  refine fk_aload_n 0 d_Nt_connect_0 rfl ?_
  refine fk_dup d_Nt_connect_1 rfl ?_
  refine fk_get 0 8 rfl rfl fh_Nt (Nat.le_of_ble_eq_true rfl) fw_52 rfl d_Nt_connect_2 ?_
  refine fk_iload_n 1 d_Nt_connect_5 rfl ?_
  refine fk_iload_n 2 d_Nt_connect_6 rfl ?_
  refine fk_ior (a := ip) (b := op) d_Nt_connect_7 ?_
  refine fk_ior (a := me) (b := (ip ||| op)) d_Nt_connect_8 ?_
  refine fk_put (w' := [(n0, .inr (2, [.ref n1, .ref n2, .ref n3, .ref n4, .int (nI cnt), .int (nI fi), .int (nI la), .int (nI lo), .int (nI (me ||| (ip ||| op)))])), fk_al E n3 7 tk, fk_al E n4 7 pu]) 0 8 fT_Nt fT_Nt_ok fT_Nt_nm rfl rfl fh_Nt (Nat.le_of_ble_eq_true rfl) fw_52 rfl (fT_Nt_ok 8 (Nat.le_of_ble_eq_true rfl)) rfl rfl (Nat.le_of_ble_eq_true rfl) d_Nt_connect_9 rfl ?_
  refine fk_iconst (v := nI 0) d_Nt_connect_12 (by decide +kernel) ?_
  refine fk_istore (lv' := [(0, .ref n0), (1, .int (nI ip)), (2, .int (nI op)), (3, .long (lN tok)), (5, .int (nI 0))]) d_Nt_connect_13 (Nat.le_of_ble_eq_true rfl) [1, 2, 3, 4, 0] rfl ?_
  have L15 : ∀ (fuel : Nat) (i : Nat) (tk1 : Nat → Nat) (pu1 : Nat → Nat), (i ≤ 7) → (∀ a, a < i → tk1 a = (if Nat.testBit op a = true then tk a ||| tok else tk a) ∧ pu1 a = (if Nat.testBit ip a = true then pu a ||| tok else pu a)) → (∀ a, i ≤ a → a < 7 → tk1 a = tk a ∧ pu1 a = pu a) → 7 - i < fuel → fk_V E (prog_4_method_14_code, fy_Nt_connect.cls, 6, fk_rm 1 0 0) K (0, 0) [(n0, .inr (2, [.ref n1, .ref n2, .ref n3, .ref n4, .int (nI cnt), .int (nI fi), .int (nI la), .int (nI lo), .int (nI (me ||| (ip ||| op)))])), fk_al E n3 7 tk1, fk_al E n4 7 pu1] 15 [(0, .ref n0), (1, .int (nI ip)), (2, .int (nI op)), (3, .long (lN tok)), (5, .int (nI i))] [] := by
    intro fuel
    induction fuel with
    | zero => intro i tk1 pu1 _ _ _ hm; exact absurd hm (Nat.not_lt_zero _)
    | succ fuel ih =>
      intro i tk1 pu1 h1 h2 h3 hm15
      have ih15 := ih
      clear ih
      
      refine fk_iload 4 d_Nt_connect_15 rfl ?_
      refine fk_bipush (v := nI 7) d_Nt_connect_17 (by decide +kernel) ?_
      refine fk_icmp_ge (a := i) (b := 7) (by omega) (by omega) d_Nt_connect_19 rfl (fun h19t => ?_) (fun h19f => ?_)
      · have hpp : ∀ a, a < 7 → tk1 a = (if Nat.testBit op a = true then tk a ||| tok else tk a) ∧ pu1 a = (if Nat.testBit ip a = true then pu a ||| tok else pu a) := fun a ha => h2 a (by omega)
        exact hret (0, 0) _ 68 _ (tk1, pu1) d_Nt_connect_68 (hpp) (rfl)
      · have h9 := h3 i (Nat.le_refl i) h19f
        have hk9 := hk i h19f
        have hu9 := hu i h19f
        refine fk_iload 4 d_Nt_connect_22 rfl ?_
        refine fk_iload_n 1 d_Nt_connect_24 rfl ?_
        refine fk_callSN (As := [.int (nI i), .int (nI ip)]) (rest := []) (is := []) (ir := [0, 1, 2]) (ip := [0, 1, 2]) (wc := []) (wr := [(n0, .inr (2, [.ref n1, .ref n2, .ref n3, .ref n4, .int (nI cnt), .int (nI fi), .int (nI la), .int (nI lo), .int (nI (me ||| (ip ||| op)))])), fk_al E n3 7 tk1, fk_al E n4 7 pu1]) (w2 := fun _ => [(n0, .inr (2, [.ref n1, .ref n2, .ref n3, .ref n4, .int (nI cnt), .int (nI fi), .int (nI la), .int (nI lo), .int (nI (me ||| (ip ||| op)))])), fk_al E n3 7 tk1, fk_al E n4 7 pu1]) (cF_isIn E i ip (by first | omega | assumption) (by first | omega | assumption)) d_Nt_connect_25 fz_F_isIn fw_279 fw_223 ⟨Nat.le_of_ble_eq_true rfl, Nat.le_of_ble_eq_true rfl⟩ rfl (Nat.le_of_ble_eq_true rfl) ⟨Nat.zero_le _, Nat.zero_le _⟩ ⟨rfl, rfl, rfl, rfl, by decide, fun _ => rfl, rfl⟩ (fun u hu25 => ?_)
        show fk_V E _ K (0, 0) [(n0, .inr (2, [.ref n1, .ref n2, .ref n3, .ref n4, .int (nI cnt), .int (nI fi), .int (nI la), .int (nI lo), .int (nI (me ||| (ip ||| op)))])), fk_al E n3 7 tk1, fk_al E n4 7 pu1] 28 [(0, .ref n0), (1, .int (nI ip)), (2, .int (nI op)), (3, .long (lN tok)), (5, .int (nI i))] [.int (nI (Bool.toNat (Nat.testBit ip i)))]
        refine fk_if_eqB (b := (Nat.testBit ip i)) d_Nt_connect_28 rfl (fun h28t => ?_) (fun h28f => ?_)
        · refine fk_iload 4 d_Nt_connect_42 rfl ?_
          refine fk_iload_n 2 d_Nt_connect_44 rfl ?_
          refine fk_callSN (As := [.int (nI i), .int (nI op)]) (rest := []) (is := []) (ir := [0, 1, 2]) (ip := [0, 1, 2]) (wc := []) (wr := [(n0, .inr (2, [.ref n1, .ref n2, .ref n3, .ref n4, .int (nI cnt), .int (nI fi), .int (nI la), .int (nI lo), .int (nI (me ||| (ip ||| op)))])), fk_al E n3 7 tk1, fk_al E n4 7 pu1]) (w2 := fun _ => [(n0, .inr (2, [.ref n1, .ref n2, .ref n3, .ref n4, .int (nI cnt), .int (nI fi), .int (nI la), .int (nI lo), .int (nI (me ||| (ip ||| op)))])), fk_al E n3 7 tk1, fk_al E n4 7 pu1]) (cF_isIn E i op (by first | omega | assumption) (by first | omega | assumption)) d_Nt_connect_45 fz_F_isIn fw_279 fw_223 ⟨Nat.le_of_ble_eq_true rfl, Nat.le_of_ble_eq_true rfl⟩ rfl (Nat.le_of_ble_eq_true rfl) ⟨Nat.zero_le _, Nat.zero_le _⟩ ⟨rfl, rfl, rfl, rfl, by decide, fun _ => rfl, rfl⟩ (fun u hu45 => ?_)
          show fk_V E _ K (0, 0) [(n0, .inr (2, [.ref n1, .ref n2, .ref n3, .ref n4, .int (nI cnt), .int (nI fi), .int (nI la), .int (nI lo), .int (nI (me ||| (ip ||| op)))])), fk_al E n3 7 tk1, fk_al E n4 7 pu1] 48 [(0, .ref n0), (1, .int (nI ip)), (2, .int (nI op)), (3, .long (lN tok)), (5, .int (nI i))] [.int (nI (Bool.toNat (Nat.testBit op i)))]
          refine fk_if_eqB (b := (Nat.testBit op i)) d_Nt_connect_48 rfl (fun h48t => ?_) (fun h48f => ?_)
          · refine fk_iinc (j := 4) (lv' := [(0, .ref n0), (1, .int (nI ip)), (2, .int (nI op)), (3, .long (lN tok)), (5, .int (nI (i + 1)))]) (i + 1) d_Nt_connect_62 rfl (nI_1 i) (Nat.le_of_ble_eq_true rfl) [1, 2, 3, 4, 0] rfl ?_
            refine fk_goto d_Nt_connect_65 rfl ?_
            refine ih15 _ _ _ ?_ ?_ ?_ ?_
            · first | omega | assumption | exact Nat.zero_le _
            · intro a ha
              rcases Nat.lt_or_ge a i with q | q
              · have q9 := h2 a q
                first | exact q9 | (simp only [va_up, if_neg (show ¬ a = i by omega)]; exact q9)
              · have e : a = i := by omega
                subst e
                simp [va_up, *]
            · intro a ha hb
              have q9 := h3 a (by omega) hb
              first | exact q9 | (simp only [va_up, if_neg (show ¬ a = i by omega)]; exact q9)
            · omega
          · refine fk_aload_n 0 d_Nt_connect_51 rfl ?_
            refine fk_get 0 2 rfl rfl fh_Nt (Nat.le_of_ble_eq_true rfl) fw_46 rfl d_Nt_connect_52 ?_
            refine fk_iload 4 d_Nt_connect_55 rfl ?_
            refine fk_dup2 d_Nt_connect_57 rfl rfl ?_
            refine fk_ld_al (i := i) 1 rfl (by omega) (by decide) d_Nt_connect_58 ?_
            refine fk_lload_n 3 d_Nt_connect_59 rfl ?_
            refine fk_lorR d_Nt_connect_60 ?_
            refine fk_topl (show lN (tk1 i) ||| lN tok = lN ((tk1 i) ||| tok) from fn_lor (by rw [h9.1]; exact hk9) (ht)) ?_
            refine fk_st_al (i := i) (x := ((tk1 i) ||| tok)) (w' := [(n0, .inr (2, [.ref n1, .ref n2, .ref n3, .ref n4, .int (nI cnt), .int (nI fi), .int (nI la), .int (nI lo), .int (nI (me ||| (ip ||| op)))])), fk_al E n3 7 (va_up tk1 i ((tk1 i) ||| tok)), fk_al E n4 7 pu1]) 1 rfl (by omega) (by decide) d_Nt_connect_61 rfl ?_
            refine fk_iinc (j := 4) (lv' := [(0, .ref n0), (1, .int (nI ip)), (2, .int (nI op)), (3, .long (lN tok)), (5, .int (nI (i + 1)))]) (i + 1) d_Nt_connect_62 rfl (nI_1 i) (Nat.le_of_ble_eq_true rfl) [1, 2, 3, 4, 0] rfl ?_
            refine fk_goto d_Nt_connect_65 rfl ?_
            refine ih15 _ _ _ ?_ ?_ ?_ ?_
            · first | omega | assumption | exact Nat.zero_le _
            · intro a ha
              rcases Nat.lt_or_ge a i with q | q
              · have q9 := h2 a q
                first | exact q9 | (simp only [va_up, if_neg (show ¬ a = i by omega)]; exact q9)
              · have e : a = i := by omega
                subst e
                simp [va_up, *]
            · intro a ha hb
              have q9 := h3 a (by omega) hb
              first | exact q9 | (simp only [va_up, if_neg (show ¬ a = i by omega)]; exact q9)
            · omega
        · refine fk_aload_n 0 d_Nt_connect_31 rfl ?_
          refine fk_get 0 3 rfl rfl fh_Nt (Nat.le_of_ble_eq_true rfl) fw_47 rfl d_Nt_connect_32 ?_
          refine fk_iload 4 d_Nt_connect_35 rfl ?_
          refine fk_dup2 d_Nt_connect_37 rfl rfl ?_
          refine fk_ld_al (i := i) 2 rfl (by omega) (by decide) d_Nt_connect_38 ?_
          refine fk_lload_n 3 d_Nt_connect_39 rfl ?_
          refine fk_lorR d_Nt_connect_40 ?_
          refine fk_topl (show lN (pu1 i) ||| lN tok = lN ((pu1 i) ||| tok) from fn_lor (by rw [h9.2]; exact hu9) (ht)) ?_
          refine fk_st_al (i := i) (x := ((pu1 i) ||| tok)) (w' := [(n0, .inr (2, [.ref n1, .ref n2, .ref n3, .ref n4, .int (nI cnt), .int (nI fi), .int (nI la), .int (nI lo), .int (nI (me ||| (ip ||| op)))])), fk_al E n3 7 tk1, fk_al E n4 7 (va_up pu1 i ((pu1 i) ||| tok))]) 2 rfl (by omega) (by decide) d_Nt_connect_41 rfl ?_
          refine fk_iload 4 d_Nt_connect_42 rfl ?_
          refine fk_iload_n 2 d_Nt_connect_44 rfl ?_
          refine fk_callSN (As := [.int (nI i), .int (nI op)]) (rest := []) (is := []) (ir := [0, 1, 2]) (ip := [0, 1, 2]) (wc := []) (wr := [(n0, .inr (2, [.ref n1, .ref n2, .ref n3, .ref n4, .int (nI cnt), .int (nI fi), .int (nI la), .int (nI lo), .int (nI (me ||| (ip ||| op)))])), fk_al E n3 7 tk1, fk_al E n4 7 (va_up pu1 i ((pu1 i) ||| tok))]) (w2 := fun _ => [(n0, .inr (2, [.ref n1, .ref n2, .ref n3, .ref n4, .int (nI cnt), .int (nI fi), .int (nI la), .int (nI lo), .int (nI (me ||| (ip ||| op)))])), fk_al E n3 7 tk1, fk_al E n4 7 (va_up pu1 i ((pu1 i) ||| tok))]) (cF_isIn E i op (by first | omega | assumption) (by first | omega | assumption)) d_Nt_connect_45 fz_F_isIn fw_279 fw_223 ⟨Nat.le_of_ble_eq_true rfl, Nat.le_of_ble_eq_true rfl⟩ rfl (Nat.le_of_ble_eq_true rfl) ⟨Nat.zero_le _, Nat.zero_le _⟩ ⟨rfl, rfl, rfl, rfl, by decide, fun _ => rfl, rfl⟩ (fun u hu45 => ?_)
          show fk_V E _ K (0, 0) [(n0, .inr (2, [.ref n1, .ref n2, .ref n3, .ref n4, .int (nI cnt), .int (nI fi), .int (nI la), .int (nI lo), .int (nI (me ||| (ip ||| op)))])), fk_al E n3 7 tk1, fk_al E n4 7 (va_up pu1 i ((pu1 i) ||| tok))] 48 [(0, .ref n0), (1, .int (nI ip)), (2, .int (nI op)), (3, .long (lN tok)), (5, .int (nI i))] [.int (nI (Bool.toNat (Nat.testBit op i)))]
          refine fk_if_eqB (b := (Nat.testBit op i)) d_Nt_connect_48 rfl (fun h48t => ?_) (fun h48f => ?_)
          · refine fk_iinc (j := 4) (lv' := [(0, .ref n0), (1, .int (nI ip)), (2, .int (nI op)), (3, .long (lN tok)), (5, .int (nI (i + 1)))]) (i + 1) d_Nt_connect_62 rfl (nI_1 i) (Nat.le_of_ble_eq_true rfl) [1, 2, 3, 4, 0] rfl ?_
            refine fk_goto d_Nt_connect_65 rfl ?_
            refine ih15 _ _ _ ?_ ?_ ?_ ?_
            · first | omega | assumption | exact Nat.zero_le _
            · intro a ha
              rcases Nat.lt_or_ge a i with q | q
              · have q9 := h2 a q
                first | exact q9 | (simp only [va_up, if_neg (show ¬ a = i by omega)]; exact q9)
              · have e : a = i := by omega
                subst e
                simp [va_up, *]
            · intro a ha hb
              have q9 := h3 a (by omega) hb
              first | exact q9 | (simp only [va_up, if_neg (show ¬ a = i by omega)]; exact q9)
            · omega
          · refine fk_aload_n 0 d_Nt_connect_51 rfl ?_
            refine fk_get 0 2 rfl rfl fh_Nt (Nat.le_of_ble_eq_true rfl) fw_46 rfl d_Nt_connect_52 ?_
            refine fk_iload 4 d_Nt_connect_55 rfl ?_
            refine fk_dup2 d_Nt_connect_57 rfl rfl ?_
            refine fk_ld_al (i := i) 1 rfl (by omega) (by decide) d_Nt_connect_58 ?_
            refine fk_lload_n 3 d_Nt_connect_59 rfl ?_
            refine fk_lorR d_Nt_connect_60 ?_
            refine fk_topl (show lN (tk1 i) ||| lN tok = lN ((tk1 i) ||| tok) from fn_lor (by rw [h9.1]; exact hk9) (ht)) ?_
            refine fk_st_al (i := i) (x := ((tk1 i) ||| tok)) (w' := [(n0, .inr (2, [.ref n1, .ref n2, .ref n3, .ref n4, .int (nI cnt), .int (nI fi), .int (nI la), .int (nI lo), .int (nI (me ||| (ip ||| op)))])), fk_al E n3 7 (va_up tk1 i ((tk1 i) ||| tok)), fk_al E n4 7 (va_up pu1 i ((pu1 i) ||| tok))]) 1 rfl (by omega) (by decide) d_Nt_connect_61 rfl ?_
            refine fk_iinc (j := 4) (lv' := [(0, .ref n0), (1, .int (nI ip)), (2, .int (nI op)), (3, .long (lN tok)), (5, .int (nI (i + 1)))]) (i + 1) d_Nt_connect_62 rfl (nI_1 i) (Nat.le_of_ble_eq_true rfl) [1, 2, 3, 4, 0] rfl ?_
            refine fk_goto d_Nt_connect_65 rfl ?_
            refine ih15 _ _ _ ?_ ?_ ?_ ?_
            · first | omega | assumption | exact Nat.zero_le _
            · intro a ha
              rcases Nat.lt_or_ge a i with q | q
              · have q9 := h2 a q
                first | exact q9 | (simp only [va_up, if_neg (show ¬ a = i by omega)]; exact q9)
              · have e : a = i := by omega
                subst e
                simp [va_up, *]
            · intro a ha hb
              have q9 := h3 a (by omega) hb
              first | exact q9 | (simp only [va_up, if_neg (show ¬ a = i by omega)]; exact q9)
            · omega
  refine L15 _ _ _ _ ?_ ?_ ?_ (Nat.lt_succ_self _)
  · first | omega | assumption | exact Nat.zero_le _
  · exact fun j hj => absurd hj (Nat.not_lt_zero j)
  · exact fun a _ _ => ⟨rfl, rfl⟩
theorem d_Nt_prepareFiring_0 : decode prog_4_method_13_code 0 = .ok (.aload_n 0, 1) := by decide +kernel
theorem d_Nt_prepareFiring_1 : decode prog_4_method_13_code 1 = .ok (.aload_n 0, 1) := by decide +kernel
theorem d_Nt_prepareFiring_2 : decode prog_4_method_13_code 2 = .ok (.getfield 35, 3) := by decide +kernel
theorem d_Nt_prepareFiring_5 : decode prog_4_method_13_code 5 = .ok (.putfield 38, 3) := by decide +kernel
theorem d_Nt_prepareFiring_8 : decode prog_4_method_13_code 8 = .ok (.aload_n 0, 1) := by decide +kernel
theorem d_Nt_prepareFiring_9 : decode prog_4_method_13_code 9 = .ok (.getfield 18, 3) := by decide +kernel
theorem d_Nt_prepareFiring_12 : decode prog_4_method_13_code 12 = .ok (.lconst 0, 1) := by decide +kernel
theorem d_Nt_prepareFiring_13 : decode prog_4_method_13_code 13 = .ok (.invokestatic 48, 3) := by decide +kernel
theorem d_Nt_prepareFiring_16 : decode prog_4_method_13_code 16 = .ok (.aload_n 0, 1) := by decide +kernel
theorem d_Nt_prepareFiring_17 : decode prog_4_method_13_code 17 = .ok (.getfield 22, 3) := by decide +kernel
theorem d_Nt_prepareFiring_20 : decode prog_4_method_13_code 20 = .ok (.lconst 0, 1) := by decide +kernel
theorem d_Nt_prepareFiring_21 : decode prog_4_method_13_code 21 = .ok (.invokestatic 48, 3) := by decide +kernel
theorem d_Nt_prepareFiring_24 : decode prog_4_method_13_code 24 = .ok (.aload_n 0, 1) := by decide +kernel
theorem d_Nt_prepareFiring_25 : decode prog_4_method_13_code 25 = .ok (.iconst 0, 1) := by decide +kernel
theorem d_Nt_prepareFiring_26 : decode prog_4_method_13_code 26 = .ok (.aload_n 0, 1) := by decide +kernel
theorem d_Nt_prepareFiring_27 : decode prog_4_method_13_code 27 = .ok (.getfield 29, 3) := by decide +kernel
theorem d_Nt_prepareFiring_30 : decode prog_4_method_13_code 30 = .ok (.lconst 1, 1) := by decide +kernel
theorem d_Nt_prepareFiring_31 : decode prog_4_method_13_code 31 = .ok (.invokevirtual 54, 3) := by decide +kernel
theorem d_Nt_prepareFiring_34 : decode prog_4_method_13_code 34 = .ok (.aload_n 0, 1) := by decide +kernel
theorem d_Nt_prepareFiring_35 : decode prog_4_method_13_code 35 = .ok (.aload_n 0, 1) := by decide +kernel
theorem d_Nt_prepareFiring_36 : decode prog_4_method_13_code 36 = .ok (.getfield 32, 3) := by decide +kernel
theorem d_Nt_prepareFiring_39 : decode prog_4_method_13_code 39 = .ok (.iconst 0, 1) := by decide +kernel
theorem d_Nt_prepareFiring_40 : decode prog_4_method_13_code 40 = .ok (.ldc2_w 58, 3) := by decide +kernel
theorem d_Nt_prepareFiring_43 : decode prog_4_method_13_code 43 = .ok (.invokevirtual 54, 3) := by decide +kernel
theorem d_Nt_prepareFiring_46 : decode prog_4_method_13_code 46 = .ok (.iconst 0, 1) := by decide +kernel
theorem d_Nt_prepareFiring_47 : decode prog_4_method_13_code 47 = .ok (.istore_n 1, 1) := by decide +kernel
theorem d_Nt_prepareFiring_48 : decode prog_4_method_13_code 48 = .ok (.iload_n 1, 1) := by decide +kernel
theorem d_Nt_prepareFiring_49 : decode prog_4_method_13_code 49 = .ok (.aload_n 0, 1) := by decide +kernel
theorem d_Nt_prepareFiring_50 : decode prog_4_method_13_code 50 = .ok (.getfield 25, 3) := by decide +kernel
theorem d_Nt_prepareFiring_53 : decode prog_4_method_13_code 53 = .ok (.if_icmp .ge 32, 3) := by decide +kernel
theorem d_Nt_prepareFiring_56 : decode prog_4_method_13_code 56 = .ok (.aload_n 0, 1) := by decide +kernel
theorem d_Nt_prepareFiring_57 : decode prog_4_method_13_code 57 = .ok (.aload_n 0, 1) := by decide +kernel
theorem d_Nt_prepareFiring_58 : decode prog_4_method_13_code 58 = .ok (.getfield 9, 3) := by decide +kernel
theorem d_Nt_prepareFiring_61 : decode prog_4_method_13_code 61 = .ok (.iload_n 1, 1) := by decide +kernel
theorem d_Nt_prepareFiring_62 : decode prog_4_method_13_code 62 = .ok (.iaload, 1) := by decide +kernel
theorem d_Nt_prepareFiring_63 : decode prog_4_method_13_code 63 = .ok (.aload_n 0, 1) := by decide +kernel
theorem d_Nt_prepareFiring_64 : decode prog_4_method_13_code 64 = .ok (.getfield 15, 3) := by decide +kernel
theorem d_Nt_prepareFiring_67 : decode prog_4_method_13_code 67 = .ok (.iload_n 1, 1) := by decide +kernel
theorem d_Nt_prepareFiring_68 : decode prog_4_method_13_code 68 = .ok (.iaload, 1) := by decide +kernel
theorem d_Nt_prepareFiring_69 : decode prog_4_method_13_code 69 = .ok (.lconst 1, 1) := by decide +kernel
theorem d_Nt_prepareFiring_70 : decode prog_4_method_13_code 70 = .ok (.iconst 4, 1) := by decide +kernel
theorem d_Nt_prepareFiring_71 : decode prog_4_method_13_code 71 = .ok (.iload_n 1, 1) := by decide +kernel
theorem d_Nt_prepareFiring_72 : decode prog_4_method_13_code 72 = .ok (.iconst 2, 1) := by decide +kernel
theorem d_Nt_prepareFiring_73 : decode prog_4_method_13_code 73 = .ok (.iadd, 1) := by decide +kernel
theorem d_Nt_prepareFiring_74 : decode prog_4_method_13_code 74 = .ok (.imul, 1) := by decide +kernel
theorem d_Nt_prepareFiring_75 : decode prog_4_method_13_code 75 = .ok (.lshl, 1) := by decide +kernel
theorem d_Nt_prepareFiring_76 : decode prog_4_method_13_code 76 = .ok (.invokevirtual 54, 3) := by decide +kernel
theorem d_Nt_prepareFiring_79 : decode prog_4_method_13_code 79 = .ok (.iinc 1 1, 3) := by decide +kernel
theorem d_Nt_prepareFiring_82 : decode prog_4_method_13_code 82 = .ok (.goto (-34), 3) := by decide +kernel
theorem d_Nt_prepareFiring_85 : decode prog_4_method_13_code 85 = .ok (.return_, 1) := by decide +kernel
set_option maxRecDepth 20000 in
set_option maxHeartbeats 4000000 in
theorem cN_prepareFiring (E : fk_E) (n0 : Nat) (n1 : Nat) (n2 : Nat) (n3 : Nat) (n4 : Nat) (cnt : Nat) (fi : Nat) (la : Nat) (lo : Nat) (me : Nat) (ins : Nat → Nat) (outs : Nat → Nat) (tk : Nat → Nat) (pu : Nat → Nat) (hc : cnt ≤ 14) (hb : ∀ j, j < cnt → ins j < 128 ∧ outs j < 128) (hf : fi < 128) (hl : la < 128) (ho : lo < 128) : fk_C E fy_Nt_prepareFiring prog_4_method_13_code 2 none 2 0 0 [.ref n0] [(n0, .inr (2, [.ref n1, .ref n2, .ref n3, .ref n4, .int (nI cnt), .int (nI fi), .int (nI la), .int (nI lo), .int (nI me)])), fk_ai E n1 14 ins, fk_ai E n2 14 outs, fk_al E n3 7 tk, fk_al E n4 7 pu] (S := (Nat → Nat) × (Nat → Nat)) (fun (u : (Nat → Nat) × (Nat → Nat)) => none) (fun (u : (Nat → Nat) × (Nat → Nat)) => ∀ a, a < 7 → u.1 a = fm_mk (fs_tak (fs_O cnt outs fi) a) ∧ u.2 a = fm_mk (fs_tak (fs_I cnt ins la) a)) (fun (u : (Nat → Nat) × (Nat → Nat)) => [(n0, .inr (2, [.ref n1, .ref n2, .ref n3, .ref n4, .int (nI cnt), .int (nI fi), .int (nI la), .int (nI lo), .int (nI (fs_mem lo fi la ins outs cnt))])), fk_ai E n1 14 ins, fk_ai E n2 14 outs, fk_al E n3 7 u.1, fk_al E n4 7 u.2]) := by
  refine fk_enterV (by decide) (Nat.le_of_ble_eq_true rfl) (lv0 := [(0, .ref n0)]) rfl ?_
  intro K hini hret
  refine fk_aload_n 0 d_Nt_prepareFiring_0 rfl ?_
  refine fk_aload_n 0 d_Nt_prepareFiring_1 rfl ?_
  refine fk_get 0 7 rfl rfl fh_Nt (Nat.le_of_ble_eq_true rfl) fw_51 rfl d_Nt_prepareFiring_2 ?_
  refine fk_put (w' := [(n0, .inr (2, [.ref n1, .ref n2, .ref n3, .ref n4, .int (nI cnt), .int (nI fi), .int (nI la), .int (nI lo), .int (nI lo)])), fk_ai E n1 14 ins, fk_ai E n2 14 outs, fk_al E n3 7 tk, fk_al E n4 7 pu]) 0 8 fT_Nt fT_Nt_ok fT_Nt_nm rfl rfl fh_Nt (Nat.le_of_ble_eq_true rfl) fw_52 rfl (fT_Nt_ok 8 (Nat.le_of_ble_eq_true rfl)) rfl rfl (Nat.le_of_ble_eq_true rfl) d_Nt_prepareFiring_5 rfl ?_
  refine fk_aload_n 0 d_Nt_prepareFiring_8 rfl ?_
  refine fk_get 0 2 rfl rfl fh_Nt (Nat.le_of_ble_eq_true rfl) fw_46 rfl d_Nt_prepareFiring_9 ?_
  refine fk_lconst (v := lN 0) d_Nt_prepareFiring_12 rfl ?_
  refine fk_callS (As := [.ref n3, .long (lN 0)]) (rest := []) (is := [3]) (ir := [0, 1, 2, 4]) (ip := [0, 1, 2, 4, 3]) (wc := [fk_al E n3 7 tk]) (wr := [(n0, .inr (2, [.ref n1, .ref n2, .ref n3, .ref n4, .int (nI cnt), .int (nI fi), .int (nI la), .int (nI lo), .int (nI lo)])), fk_ai E n1 14 ins, fk_ai E n2 14 outs, fk_al E n4 7 pu]) (w2 := fun u => [(n0, .inr (2, [.ref n1, .ref n2, .ref n3, .ref n4, .int (nI cnt), .int (nI fi), .int (nI la), .int (nI lo), .int (nI lo)])), fk_ai E n1 14 ins, fk_ai E n2 14 outs, fk_al E n3 7 u, fk_al E n4 7 pu]) (cA_fillJ E n3 7 0 tk (by first | omega | assumption)) d_Nt_prepareFiring_13 fz_Ar_fillJ fw_272 fw_273 ⟨Nat.le_of_ble_eq_true rfl, Nat.le_of_ble_eq_true rfl⟩ rfl (Nat.le_of_ble_eq_true rfl) ⟨Nat.zero_le _, Nat.zero_le _⟩ ⟨rfl, rfl, rfl, rfl, by decide, fun _ => rfl, rfl⟩ (fun u hu13 => ?_)
  obtain ⟨g9_13, rfl⟩ : ∃ z, z = u := ⟨_, rfl⟩
  have hq13 : ∀ k, k < 7 → g9_13 k = 0 := hu13
  show fk_V E _ K (0, 0) [(n0, .inr (2, [.ref n1, .ref n2, .ref n3, .ref n4, .int (nI cnt), .int (nI fi), .int (nI la), .int (nI lo), .int (nI lo)])), fk_ai E n1 14 ins, fk_ai E n2 14 outs, fk_al E n3 7 g9_13, fk_al E n4 7 pu] 16 [(0, .ref n0)] []
  refine fk_aload_n 0 d_Nt_prepareFiring_16 rfl ?_
  refine fk_get 0 3 rfl rfl fh_Nt (Nat.le_of_ble_eq_true rfl) fw_47 rfl d_Nt_prepareFiring_17 ?_
  refine fk_lconst (v := lN 0) d_Nt_prepareFiring_20 rfl ?_
  refine fk_callS (As := [.ref n4, .long (lN 0)]) (rest := []) (is := [4]) (ir := [0, 1, 2, 3]) (ip := [0, 1, 2, 3, 4]) (wc := [fk_al E n4 7 pu]) (wr := [(n0, .inr (2, [.ref n1, .ref n2, .ref n3, .ref n4, .int (nI cnt), .int (nI fi), .int (nI la), .int (nI lo), .int (nI lo)])), fk_ai E n1 14 ins, fk_ai E n2 14 outs, fk_al E n3 7 g9_13]) (w2 := fun u => [(n0, .inr (2, [.ref n1, .ref n2, .ref n3, .ref n4, .int (nI cnt), .int (nI fi), .int (nI la), .int (nI lo), .int (nI lo)])), fk_ai E n1 14 ins, fk_ai E n2 14 outs, fk_al E n3 7 g9_13, fk_al E n4 7 u]) (cA_fillJ E n4 7 0 pu (by first | omega | assumption)) d_Nt_prepareFiring_21 fz_Ar_fillJ fw_272 fw_273 ⟨Nat.le_of_ble_eq_true rfl, Nat.le_of_ble_eq_true rfl⟩ rfl (Nat.le_of_ble_eq_true rfl) ⟨Nat.zero_le _, Nat.zero_le _⟩ ⟨rfl, rfl, rfl, rfl, by decide, fun _ => rfl, rfl⟩ (fun u hu21 => ?_)
  obtain ⟨g9_21, rfl⟩ : ∃ z, z = u := ⟨_, rfl⟩
  have hq21 : ∀ k, k < 7 → g9_21 k = 0 := hu21
  show fk_V E _ K (0, 0) [(n0, .inr (2, [.ref n1, .ref n2, .ref n3, .ref n4, .int (nI cnt), .int (nI fi), .int (nI la), .int (nI lo), .int (nI lo)])), fk_ai E n1 14 ins, fk_ai E n2 14 outs, fk_al E n3 7 g9_13, fk_al E n4 7 g9_21] 24 [(0, .ref n0)] []
  refine fk_aload_n 0 d_Nt_prepareFiring_24 rfl ?_
  refine fk_iconst (v := nI 0) d_Nt_prepareFiring_25 (by decide +kernel) ?_
  refine fk_aload_n 0 d_Nt_prepareFiring_26 rfl ?_
  refine fk_get 0 5 rfl rfl fh_Nt (Nat.le_of_ble_eq_true rfl) fw_49 rfl d_Nt_prepareFiring_27 ?_
  refine fk_lconst (v := lN 1) d_Nt_prepareFiring_30 rfl ?_
  refine fk_callV (q0 := 0) (As := [.int (nI 0), .int (nI fi), .long (lN 1)]) (rest := []) (is := [0, 3, 4]) (ir := [1, 2]) (ip := [2, 0, 1, 3, 4]) (wc := [(n0, .inr (2, [.ref n1, .ref n2, .ref n3, .ref n4, .int (nI cnt), .int (nI fi), .int (nI la), .int (nI lo), .int (nI lo)])), fk_al E n3 7 g9_13, fk_al E n4 7 g9_21]) (wr := [fk_ai E n1 14 ins, fk_ai E n2 14 outs]) (w2 := fun u => [(n0, .inr (2, [.ref n1, .ref n2, .ref n3, .ref n4, .int (nI cnt), .int (nI fi), .int (nI la), .int (nI lo), .int (nI (lo ||| (0 ||| fi)))])), fk_ai E n1 14 ins, fk_ai E n2 14 outs, fk_al E n3 7 u.1, fk_al E n4 7 u.2]) (cN_connect E n0 n1 n2 n3 n4 cnt fi la lo lo g9_13 g9_21 0 fi 1 (by first | omega | assumption) (by first | omega | assumption) (by first | omega | assumption) (by decide) (fun a ha => by rw [hq13 a ha]; decide) (fun a ha => by rw [hq21 a ha]; decide)) d_Nt_prepareFiring_31 fz_Nt_connect fw_275 rfl rfl fw_277 fw_p5 ⟨Nat.le_of_ble_eq_true rfl, Nat.le_of_ble_eq_true rfl⟩ rfl (Nat.le_of_ble_eq_true rfl) ⟨Nat.zero_le _, Nat.zero_le _⟩ ⟨rfl, rfl, rfl, rfl, by decide, fun _ => rfl, rfl⟩ (fun u hu31 => ?_)
  obtain ⟨tk9_31, pu9_31⟩ := u
  have hq31 : ∀ a, a < 7 → tk9_31 a = (if Nat.testBit fi a = true then g9_13 a ||| 1 else g9_13 a) ∧ pu9_31 a = (if Nat.testBit 0 a = true then g9_21 a ||| 1 else g9_21 a) := hu31
  show fk_V E _ K (0, 0) [(n0, .inr (2, [.ref n1, .ref n2, .ref n3, .ref n4, .int (nI cnt), .int (nI fi), .int (nI la), .int (nI lo), .int (nI (lo ||| (0 ||| fi)))])), fk_ai E n1 14 ins, fk_ai E n2 14 outs, fk_al E n3 7 tk9_31, fk_al E n4 7 pu9_31] 34 [(0, .ref n0)] []
  refine fk_aload_n 0 d_Nt_prepareFiring_34 rfl ?_
  refine fk_aload_n 0 d_Nt_prepareFiring_35 rfl ?_
  refine fk_get 0 6 rfl rfl fh_Nt (Nat.le_of_ble_eq_true rfl) fw_50 rfl d_Nt_prepareFiring_36 ?_
  refine fk_iconst (v := nI 0) d_Nt_prepareFiring_39 (by decide +kernel) ?_
  refine fk_ldc2 (v := (16 : Int64)) d_Nt_prepareFiring_40 fw_280 ?_
  refine fk_topl (show (16 : Int64) = lN 16 by decide +kernel) ?_
  refine fk_callV (q0 := 0) (As := [.int (nI la), .int (nI 0), .long (lN 16)]) (rest := []) (is := [0, 3, 4]) (ir := [1, 2]) (ip := [2, 0, 1, 3, 4]) (wc := [(n0, .inr (2, [.ref n1, .ref n2, .ref n3, .ref n4, .int (nI cnt), .int (nI fi), .int (nI la), .int (nI lo), .int (nI (lo ||| (0 ||| fi)))])), fk_al E n3 7 tk9_31, fk_al E n4 7 pu9_31]) (wr := [fk_ai E n1 14 ins, fk_ai E n2 14 outs]) (w2 := fun u => [(n0, .inr (2, [.ref n1, .ref n2, .ref n3, .ref n4, .int (nI cnt), .int (nI fi), .int (nI la), .int (nI lo), .int (nI ((lo ||| (0 ||| fi)) ||| (la ||| 0)))])), fk_ai E n1 14 ins, fk_ai E n2 14 outs, fk_al E n3 7 u.1, fk_al E n4 7 u.2]) (cN_connect E n0 n1 n2 n3 n4 cnt fi la lo (lo ||| (0 ||| fi)) tk9_31 pu9_31 la 0 16 (fb_or_lt ho (fb_or_lt (by decide) hf)) (by first | omega | assumption) (by first | omega | assumption) (by decide) (fun a ha => by rw [(hq31 a ha).1, hq13 a ha, fs_tk0 outs fi a]; exact fm_mk_lt _) (fun a ha => by rw [(hq31 a ha).2, hq21 a ha, Nat.zero_testBit, if_neg (by decide)]; decide)) d_Nt_prepareFiring_43 fz_Nt_connect fw_275 rfl rfl fw_277 fw_p5 ⟨Nat.le_of_ble_eq_true rfl, Nat.le_of_ble_eq_true rfl⟩ rfl (Nat.le_of_ble_eq_true rfl) ⟨Nat.zero_le _, Nat.zero_le _⟩ ⟨rfl, rfl, rfl, rfl, by decide, fun _ => rfl, rfl⟩ (fun u hu43 => ?_)
  obtain ⟨tk9_43, pu9_43⟩ := u
  have hq43 : ∀ a, a < 7 → tk9_43 a = (if Nat.testBit 0 a = true then tk9_31 a ||| 16 else tk9_31 a) ∧ pu9_43 a = (if Nat.testBit la a = true then pu9_31 a ||| 16 else pu9_31 a) := hu43
  show fk_V E _ K (0, 0) [(n0, .inr (2, [.ref n1, .ref n2, .ref n3, .ref n4, .int (nI cnt), .int (nI fi), .int (nI la), .int (nI lo), .int (nI ((lo ||| (0 ||| fi)) ||| (la ||| 0)))])), fk_ai E n1 14 ins, fk_ai E n2 14 outs, fk_al E n3 7 tk9_43, fk_al E n4 7 pu9_43] 46 [(0, .ref n0)] []
  refine fk_iconst (v := nI 0) d_Nt_prepareFiring_46 (by decide +kernel) ?_
  refine fk_istore_n (lv' := [(0, .ref n0), (1, .int (nI 0))]) d_Nt_prepareFiring_47 rfl (Nat.le_of_ble_eq_true rfl) [1, 0] rfl ?_
  have L48 : ∀ (fuel : Nat) (k : Nat) (tk1 : Nat → Nat) (pu1 : Nat → Nat), (k ≤ cnt) → (∀ a, a < 7 → tk1 a = fm_mk (fs_tak (fs_O k outs fi) a) ∧ pu1 a = fm_mk (fs_tak (fs_I k ins la) a)) → cnt - k < fuel → fk_V E (prog_4_method_13_code, fy_Nt_prepareFiring.cls, 2, fk_rm 2 0 0) K (0, 0) [(n0, .inr (2, [.ref n1, .ref n2, .ref n3, .ref n4, .int (nI cnt), .int (nI fi), .int (nI la), .int (nI lo), .int (nI (fs_mem lo fi la ins outs k))])), fk_ai E n1 14 ins, fk_ai E n2 14 outs, fk_al E n3 7 tk1, fk_al E n4 7 pu1] 48 [(0, .ref n0), (1, .int (nI k))] [] := by
    intro fuel
    induction fuel with
    | zero => intro k tk1 pu1 _ _ hm; exact absurd hm (Nat.not_lt_zero _)
    | succ fuel ih =>
      intro k tk1 pu1 h1 h2 hm48
      have ih48 := ih
      clear ih
      refine fk_iload_n 1 d_Nt_prepareFiring_48 rfl ?_
      refine fk_aload_n 0 d_Nt_prepareFiring_49 rfl ?_
      refine fk_get 0 4 rfl rfl fh_Nt (Nat.le_of_ble_eq_true rfl) fw_48 rfl d_Nt_prepareFiring_50 ?_
      refine fk_icmp_ge (a := k) (b := cnt) (by omega) (by omega) d_Nt_prepareFiring_53 rfl (fun h53t => ?_) (fun h53f => ?_)
      · have hpp : ∀ a, a < 7 → tk1 a = fm_mk (fs_tak (fs_O cnt outs fi) a) ∧ pu1 a = fm_mk (fs_tak (fs_I cnt ins la) a) := by rw [show cnt = k by omega]; exact h2
        exact hret (0, 0) _ 85 _ (tk1, pu1) d_Nt_prepareFiring_85 (hpp) (by rw [show cnt = k by omega])
      · refine fk_aload_n 0 d_Nt_prepareFiring_56 rfl ?_
        refine fk_aload_n 0 d_Nt_prepareFiring_57 rfl ?_
        refine fk_get 0 0 rfl rfl fh_Nt (Nat.le_of_ble_eq_true rfl) fw_44 rfl d_Nt_prepareFiring_58 ?_
        refine fk_iload_n 1 d_Nt_prepareFiring_61 rfl ?_
        refine fk_ld_ai (i := k) 1 rfl (by omega) (by decide) d_Nt_prepareFiring_62 ?_
        refine fk_aload_n 0 d_Nt_prepareFiring_63 rfl ?_
        refine fk_get 0 1 rfl rfl fh_Nt (Nat.le_of_ble_eq_true rfl) fw_45 rfl d_Nt_prepareFiring_64 ?_
        refine fk_iload_n 1 d_Nt_prepareFiring_67 rfl ?_
        refine fk_ld_ai (i := k) 2 rfl (by omega) (by decide) d_Nt_prepareFiring_68 ?_
        refine fk_lconst (v := lN 1) d_Nt_prepareFiring_69 rfl ?_
        refine fk_iconst (v := nI 4) d_Nt_prepareFiring_70 (by decide +kernel) ?_
        refine fk_iload_n 1 d_Nt_prepareFiring_71 rfl ?_
        refine fk_iconst (v := nI 2) d_Nt_prepareFiring_72 (by decide +kernel) ?_
        refine fk_iadd (a := k) (b := 2) d_Nt_prepareFiring_73 ?_
        refine fk_imul (a := 4) (b := (k + 2)) d_Nt_prepareFiring_74 ?_
        refine fk_lshl d_Nt_prepareFiring_75 (fn_lshl (a := 1) (k := (4 * (k + 2))) (by omega)) ?_
        refine fk_callV (q0 := 0) (As := [.int (nI (ins k)), .int (nI (outs k)), .long (lN (1 * 2 ^ (4 * (k + 2))))]) (rest := []) (is := [0, 3, 4]) (ir := [1, 2]) (ip := [2, 0, 1, 3, 4]) (wc := [(n0, .inr (2, [.ref n1, .ref n2, .ref n3, .ref n4, .int (nI cnt), .int (nI fi), .int (nI la), .int (nI lo), .int (nI (fs_mem lo fi la ins outs k))])), fk_al E n3 7 tk1, fk_al E n4 7 pu1]) (wr := [fk_ai E n1 14 ins, fk_ai E n2 14 outs]) (w2 := fun u => [(n0, .inr (2, [.ref n1, .ref n2, .ref n3, .ref n4, .int (nI cnt), .int (nI fi), .int (nI la), .int (nI lo), .int (nI ((fs_mem lo fi la ins outs k) ||| ((ins k) ||| (outs k))))])), fk_ai E n1 14 ins, fk_ai E n2 14 outs, fk_al E n3 7 u.1, fk_al E n4 7 u.2]) (cN_connect E n0 n1 n2 n3 n4 cnt fi la lo (fs_mem lo fi la ins outs k) tk1 pu1 (ins k) (outs k) (1 * 2 ^ (4 * (k + 2))) (fs_mem_lt ho hf hl (fun j hj => hb j (by omega))) ((hb k (by omega)).1) ((hb k (by omega)).2) (by rw [Nat.one_mul]; exact fm_pow_lt (by omega)) (fun a ha => by rw [(h2 a ha).1]; exact fm_mk_lt _) (fun a ha => by rw [(h2 a ha).2]; exact fm_mk_lt _)) d_Nt_prepareFiring_76 fz_Nt_connect fw_275 rfl rfl fw_277 fw_p5 ⟨Nat.le_of_ble_eq_true rfl, Nat.le_of_ble_eq_true rfl⟩ rfl (Nat.le_of_ble_eq_true rfl) ⟨Nat.zero_le _, Nat.zero_le _⟩ ⟨rfl, rfl, rfl, rfl, by decide, fun _ => rfl, rfl⟩ (fun u hu76 => ?_)
        obtain ⟨tk9_76, pu9_76⟩ := u
        have hq76 : ∀ a, a < 7 → tk9_76 a = (if Nat.testBit (outs k) a = true then tk1 a ||| (1 * 2 ^ (4 * (k + 2))) else tk1 a) ∧ pu9_76 a = (if Nat.testBit (ins k) a = true then pu1 a ||| (1 * 2 ^ (4 * (k + 2))) else pu1 a) := hu76
        show fk_V E _ K (0, 0) [(n0, .inr (2, [.ref n1, .ref n2, .ref n3, .ref n4, .int (nI cnt), .int (nI fi), .int (nI la), .int (nI lo), .int (nI ((fs_mem lo fi la ins outs k) ||| ((ins k) ||| (outs k))))])), fk_ai E n1 14 ins, fk_ai E n2 14 outs, fk_al E n3 7 tk9_76, fk_al E n4 7 pu9_76] 79 [(0, .ref n0), (1, .int (nI k))] []
        refine fk_iinc (j := 1) (lv' := [(0, .ref n0), (1, .int (nI (k + 1)))]) (k + 1) d_Nt_prepareFiring_79 rfl (nI_1 k) (Nat.le_of_ble_eq_true rfl) [1, 0] rfl ?_
        refine fk_goto d_Nt_prepareFiring_82 rfl ?_
        refine ih48 _ _ _ ?_ ?_ ?_
        · first | omega | assumption | exact Nat.zero_le _
        · intro a ha
          have q1 := hq76 a ha
          rw [q1.1, q1.2, (h2 a ha).1, (h2 a ha).2, Nat.one_mul, fs_tks outs fi a (by omega), fs_pus ins la a (by omega)]
          exact ⟨rfl, rfl⟩
        · omega
  refine L48 _ _ _ _ ?_ ?_ (Nat.lt_succ_self _)
  · first | omega | assumption | exact Nat.zero_le _
  · intro a ha
    have q1 := hq43 a ha
    have q2 := hq31 a ha
    rw [q1.1, q1.2, q2.1, q2.2, hq13 a ha, hq21 a ha]
    simp only [Nat.zero_testBit, Bool.false_eq_true, if_false]
    rw [fs_tk0 outs fi a, fs_pu0 ins la a]
    exact ⟨rfl, rfl⟩
theorem d_Nt_setEnds_0 : decode prog_4_method_10_code 0 = .ok (.aload_n 0, 1) := by decide +kernel
theorem d_Nt_setEnds_1 : decode prog_4_method_10_code 1 = .ok (.iload_n 1, 1) := by decide +kernel
theorem d_Nt_setEnds_2 : decode prog_4_method_10_code 2 = .ok (.putfield 29, 3) := by decide +kernel
theorem d_Nt_setEnds_5 : decode prog_4_method_10_code 5 = .ok (.aload_n 0, 1) := by decide +kernel
theorem d_Nt_setEnds_6 : decode prog_4_method_10_code 6 = .ok (.iload_n 2, 1) := by decide +kernel
theorem d_Nt_setEnds_7 : decode prog_4_method_10_code 7 = .ok (.putfield 32, 3) := by decide +kernel
theorem d_Nt_setEnds_10 : decode prog_4_method_10_code 10 = .ok (.aload_n 0, 1) := by decide +kernel
theorem d_Nt_setEnds_11 : decode prog_4_method_10_code 11 = .ok (.invokevirtual 41, 3) := by decide +kernel
theorem d_Nt_setEnds_14 : decode prog_4_method_10_code 14 = .ok (.return_, 1) := by decide +kernel
set_option maxRecDepth 20000 in
set_option maxHeartbeats 4000000 in
theorem cN_setEnds (E : fk_E) (n0 : Nat) (n1 : Nat) (n2 : Nat) (n3 : Nat) (n4 : Nat) (cnt : Nat) (fi : Nat) (la : Nat) (lo : Nat) (me : Nat) (ins : Nat → Nat) (outs : Nat → Nat) (tk : Nat → Nat) (pu : Nat → Nat) (f : Nat) (l : Nat) (hc : cnt ≤ 14) (hb : ∀ j, j < cnt → ins j < 128 ∧ outs j < 128) (hf : f < 128) (hl : l < 128) (ho : lo < 128) : fk_C E fy_Nt_setEnds prog_4_method_10_code 3 none 3 0 0 [.ref n0, .int (nI f), .int (nI l)] [(n0, .inr (2, [.ref n1, .ref n2, .ref n3, .ref n4, .int (nI cnt), .int (nI fi), .int (nI la), .int (nI lo), .int (nI me)])), fk_ai E n1 14 ins, fk_ai E n2 14 outs, fk_al E n3 7 tk, fk_al E n4 7 pu] (S := (Nat → Nat) × (Nat → Nat)) (fun (u : (Nat → Nat) × (Nat → Nat)) => none) (fun (u : (Nat → Nat) × (Nat → Nat)) => ∀ a, a < 7 → u.1 a = fm_mk (fs_tak (fs_O cnt outs f) a) ∧ u.2 a = fm_mk (fs_tak (fs_I cnt ins l) a)) (fun (u : (Nat → Nat) × (Nat → Nat)) => [(n0, .inr (2, [.ref n1, .ref n2, .ref n3, .ref n4, .int (nI cnt), .int (nI f), .int (nI l), .int (nI lo), .int (nI (fs_mem lo f l ins outs cnt))])), fk_ai E n1 14 ins, fk_ai E n2 14 outs, fk_al E n3 7 u.1, fk_al E n4 7 u.2]) := by
  refine fk_enterV (by decide) (Nat.le_of_ble_eq_true rfl) (lv0 := [(0, .ref n0), (1, .int (nI f)), (2, .int (nI l))]) rfl ?_
  intro K hini hret
  refine fk_aload_n 0 d_Nt_setEnds_0 rfl ?_
  refine fk_iload_n 1 d_Nt_setEnds_1 rfl ?_
  refine fk_put (w' := [(n0, .inr (2, [.ref n1, .ref n2, .ref n3, .ref n4, .int (nI cnt), .int (nI f), .int (nI la), .int (nI lo), .int (nI me)])), fk_ai E n1 14 ins, fk_ai E n2 14 outs, fk_al E n3 7 tk, fk_al E n4 7 pu]) 0 5 fT_Nt fT_Nt_ok fT_Nt_nm rfl rfl fh_Nt (Nat.le_of_ble_eq_true rfl) fw_49 rfl (fT_Nt_ok 5 (Nat.le_of_ble_eq_true rfl)) rfl rfl (Nat.le_of_ble_eq_true rfl) d_Nt_setEnds_2 rfl ?_
  refine fk_aload_n 0 d_Nt_setEnds_5 rfl ?_
  refine fk_iload_n 2 d_Nt_setEnds_6 rfl ?_
  refine fk_put (w' := [(n0, .inr (2, [.ref n1, .ref n2, .ref n3, .ref n4, .int (nI cnt), .int (nI f), .int (nI l), .int (nI lo), .int (nI me)])), fk_ai E n1 14 ins, fk_ai E n2 14 outs, fk_al E n3 7 tk, fk_al E n4 7 pu]) 0 6 fT_Nt fT_Nt_ok fT_Nt_nm rfl rfl fh_Nt (Nat.le_of_ble_eq_true rfl) fw_50 rfl (fT_Nt_ok 6 (Nat.le_of_ble_eq_true rfl)) rfl rfl (Nat.le_of_ble_eq_true rfl) d_Nt_setEnds_7 rfl ?_
  refine fk_aload_n 0 d_Nt_setEnds_10 rfl ?_
  refine fk_callV (q0 := 0) (As := []) (rest := []) (is := [0, 1, 2, 3, 4]) (ir := []) (ip := [0, 1, 2, 3, 4]) (wc := [(n0, .inr (2, [.ref n1, .ref n2, .ref n3, .ref n4, .int (nI cnt), .int (nI f), .int (nI l), .int (nI lo), .int (nI me)])), fk_ai E n1 14 ins, fk_ai E n2 14 outs, fk_al E n3 7 tk, fk_al E n4 7 pu]) (wr := []) (w2 := fun u => [(n0, .inr (2, [.ref n1, .ref n2, .ref n3, .ref n4, .int (nI cnt), .int (nI f), .int (nI l), .int (nI lo), .int (nI (fs_mem lo f l ins outs cnt))])), fk_ai E n1 14 ins, fk_ai E n2 14 outs, fk_al E n3 7 u.1, fk_al E n4 7 u.2]) (cN_prepareFiring E n0 n1 n2 n3 n4 cnt f l lo me ins outs tk pu (by first | omega | assumption) (by first | omega | assumption) (by first | omega | assumption) (by first | omega | assumption) (by first | omega | assumption)) d_Nt_setEnds_11 fz_Nt_prepareFiring fw_268 rfl rfl fw_270 fw_p4 ⟨Nat.le_of_ble_eq_true rfl, Nat.le_of_ble_eq_true rfl⟩ rfl (Nat.le_of_ble_eq_true rfl) ⟨Nat.zero_le _, Nat.zero_le _⟩ ⟨rfl, rfl, rfl, rfl, by decide, fun _ => rfl, rfl⟩ (fun u hu11 => ?_)
  obtain ⟨tk9_11, pu9_11⟩ := u
  have hq11 : ∀ a, a < 7 → tk9_11 a = fm_mk (fs_tak (fs_O cnt outs f) a) ∧ pu9_11 a = fm_mk (fs_tak (fs_I cnt ins l) a) := hu11
  show fk_V E _ K (0, 0) [(n0, .inr (2, [.ref n1, .ref n2, .ref n3, .ref n4, .int (nI cnt), .int (nI f), .int (nI l), .int (nI lo), .int (nI (fs_mem lo f l ins outs cnt))])), fk_ai E n1 14 ins, fk_ai E n2 14 outs, fk_al E n3 7 tk9_11, fk_al E n4 7 pu9_11] 14 [(0, .ref n0), (1, .int (nI f)), (2, .int (nI l))] []
  have hpp : ∀ a, a < 7 → tk9_11 a = fm_mk (fs_tak (fs_O cnt outs f) a) ∧ pu9_11 a = fm_mk (fs_tak (fs_I cnt ins l) a) := hq11
  exact hret (0, 0) _ 14 _ (tk9_11, pu9_11) d_Nt_setEnds_14 (hpp) (rfl)
theorem d_Nt_setLoose_0 : decode prog_4_method_11_code 0 = .ok (.aload_n 0, 1) := by decide +kernel
theorem d_Nt_setLoose_1 : decode prog_4_method_11_code 1 = .ok (.iload_n 1, 1) := by decide +kernel
theorem d_Nt_setLoose_2 : decode prog_4_method_11_code 2 = .ok (.putfield 35, 3) := by decide +kernel
theorem d_Nt_setLoose_5 : decode prog_4_method_11_code 5 = .ok (.aload_n 0, 1) := by decide +kernel
theorem d_Nt_setLoose_6 : decode prog_4_method_11_code 6 = .ok (.invokevirtual 41, 3) := by decide +kernel
theorem d_Nt_setLoose_9 : decode prog_4_method_11_code 9 = .ok (.return_, 1) := by decide +kernel
set_option maxRecDepth 20000 in
set_option maxHeartbeats 4000000 in
theorem cN_setLoose (E : fk_E) (n0 : Nat) (n1 : Nat) (n2 : Nat) (n3 : Nat) (n4 : Nat) (cnt : Nat) (fi : Nat) (la : Nat) (lo : Nat) (me : Nat) (ins : Nat → Nat) (outs : Nat → Nat) (tk : Nat → Nat) (pu : Nat → Nat) (s : Nat) (hc : cnt ≤ 14) (hb : ∀ j, j < cnt → ins j < 128 ∧ outs j < 128) (hf : fi < 128) (hl : la < 128) (ho : s < 128) : fk_C E fy_Nt_setLoose prog_4_method_11_code 2 none 3 0 0 [.ref n0, .int (nI s)] [(n0, .inr (2, [.ref n1, .ref n2, .ref n3, .ref n4, .int (nI cnt), .int (nI fi), .int (nI la), .int (nI lo), .int (nI me)])), fk_ai E n1 14 ins, fk_ai E n2 14 outs, fk_al E n3 7 tk, fk_al E n4 7 pu] (S := (Nat → Nat) × (Nat → Nat)) (fun (u : (Nat → Nat) × (Nat → Nat)) => none) (fun (u : (Nat → Nat) × (Nat → Nat)) => ∀ a, a < 7 → u.1 a = fm_mk (fs_tak (fs_O cnt outs fi) a) ∧ u.2 a = fm_mk (fs_tak (fs_I cnt ins la) a)) (fun (u : (Nat → Nat) × (Nat → Nat)) => [(n0, .inr (2, [.ref n1, .ref n2, .ref n3, .ref n4, .int (nI cnt), .int (nI fi), .int (nI la), .int (nI s), .int (nI (fs_mem s fi la ins outs cnt))])), fk_ai E n1 14 ins, fk_ai E n2 14 outs, fk_al E n3 7 u.1, fk_al E n4 7 u.2]) := by
  refine fk_enterV (by decide) (Nat.le_of_ble_eq_true rfl) (lv0 := [(0, .ref n0), (1, .int (nI s))]) rfl ?_
  intro K hini hret
  refine fk_aload_n 0 d_Nt_setLoose_0 rfl ?_
  refine fk_iload_n 1 d_Nt_setLoose_1 rfl ?_
  refine fk_put (w' := [(n0, .inr (2, [.ref n1, .ref n2, .ref n3, .ref n4, .int (nI cnt), .int (nI fi), .int (nI la), .int (nI s), .int (nI me)])), fk_ai E n1 14 ins, fk_ai E n2 14 outs, fk_al E n3 7 tk, fk_al E n4 7 pu]) 0 7 fT_Nt fT_Nt_ok fT_Nt_nm rfl rfl fh_Nt (Nat.le_of_ble_eq_true rfl) fw_51 rfl (fT_Nt_ok 7 (Nat.le_of_ble_eq_true rfl)) rfl rfl (Nat.le_of_ble_eq_true rfl) d_Nt_setLoose_2 rfl ?_
  refine fk_aload_n 0 d_Nt_setLoose_5 rfl ?_
  refine fk_callV (q0 := 0) (As := []) (rest := []) (is := [0, 1, 2, 3, 4]) (ir := []) (ip := [0, 1, 2, 3, 4]) (wc := [(n0, .inr (2, [.ref n1, .ref n2, .ref n3, .ref n4, .int (nI cnt), .int (nI fi), .int (nI la), .int (nI s), .int (nI me)])), fk_ai E n1 14 ins, fk_ai E n2 14 outs, fk_al E n3 7 tk, fk_al E n4 7 pu]) (wr := []) (w2 := fun u => [(n0, .inr (2, [.ref n1, .ref n2, .ref n3, .ref n4, .int (nI cnt), .int (nI fi), .int (nI la), .int (nI s), .int (nI (fs_mem s fi la ins outs cnt))])), fk_ai E n1 14 ins, fk_ai E n2 14 outs, fk_al E n3 7 u.1, fk_al E n4 7 u.2]) (cN_prepareFiring E n0 n1 n2 n3 n4 cnt fi la s me ins outs tk pu (by first | omega | assumption) (by first | omega | assumption) (by first | omega | assumption) (by first | omega | assumption) (by first | omega | assumption)) d_Nt_setLoose_6 fz_Nt_prepareFiring fw_268 rfl rfl fw_270 fw_p4 ⟨Nat.le_of_ble_eq_true rfl, Nat.le_of_ble_eq_true rfl⟩ rfl (Nat.le_of_ble_eq_true rfl) ⟨Nat.zero_le _, Nat.zero_le _⟩ ⟨rfl, rfl, rfl, rfl, by decide, fun _ => rfl, rfl⟩ (fun u hu6 => ?_)
  obtain ⟨tk9_6, pu9_6⟩ := u
  have hq6 : ∀ a, a < 7 → tk9_6 a = fm_mk (fs_tak (fs_O cnt outs fi) a) ∧ pu9_6 a = fm_mk (fs_tak (fs_I cnt ins la) a) := hu6
  show fk_V E _ K (0, 0) [(n0, .inr (2, [.ref n1, .ref n2, .ref n3, .ref n4, .int (nI cnt), .int (nI fi), .int (nI la), .int (nI s), .int (nI (fs_mem s fi la ins outs cnt))])), fk_ai E n1 14 ins, fk_ai E n2 14 outs, fk_al E n3 7 tk9_6, fk_al E n4 7 pu9_6] 9 [(0, .ref n0), (1, .int (nI s))] []
  have hpp : ∀ a, a < 7 → tk9_6 a = fm_mk (fs_tak (fs_O cnt outs fi) a) ∧ pu9_6 a = fm_mk (fs_tak (fs_I cnt ins la) a) := hq6
  exact hret (0, 0) _ 9 _ (tk9_6, pu9_6) d_Nt_setLoose_9 (hpp) (rfl)
theorem d_Nt_removeAll_0 : decode prog_4_method_12_code 0 = .ok (.aload_n 0, 1) := by decide +kernel
theorem d_Nt_removeAll_1 : decode prog_4_method_12_code 1 = .ok (.iconst 0, 1) := by decide +kernel
theorem d_Nt_removeAll_2 : decode prog_4_method_12_code 2 = .ok (.putfield 25, 3) := by decide +kernel
theorem d_Nt_removeAll_5 : decode prog_4_method_12_code 5 = .ok (.aload_n 0, 1) := by decide +kernel
theorem d_Nt_removeAll_6 : decode prog_4_method_12_code 6 = .ok (.iconst 0, 1) := by decide +kernel
theorem d_Nt_removeAll_7 : decode prog_4_method_12_code 7 = .ok (.putfield 35, 3) := by decide +kernel
theorem d_Nt_removeAll_10 : decode prog_4_method_12_code 10 = .ok (.aload_n 0, 1) := by decide +kernel
theorem d_Nt_removeAll_11 : decode prog_4_method_12_code 11 = .ok (.iconst 0, 1) := by decide +kernel
theorem d_Nt_removeAll_12 : decode prog_4_method_12_code 12 = .ok (.iconst 0, 1) := by decide +kernel
theorem d_Nt_removeAll_13 : decode prog_4_method_12_code 13 = .ok (.invokevirtual 44, 3) := by decide +kernel
theorem d_Nt_removeAll_16 : decode prog_4_method_12_code 16 = .ok (.return_, 1) := by decide +kernel
set_option maxRecDepth 20000 in
set_option maxHeartbeats 4000000 in
theorem cN_removeAll (E : fk_E) (n0 : Nat) (n1 : Nat) (n2 : Nat) (n3 : Nat) (n4 : Nat) (cnt : Nat) (fi : Nat) (la : Nat) (lo : Nat) (me : Nat) (ins : Nat → Nat) (outs : Nat → Nat) (tk : Nat → Nat) (pu : Nat → Nat)  : fk_C E fy_Nt_removeAll prog_4_method_12_code 1 none 4 0 0 [.ref n0] [(n0, .inr (2, [.ref n1, .ref n2, .ref n3, .ref n4, .int (nI cnt), .int (nI fi), .int (nI la), .int (nI lo), .int (nI me)])), fk_ai E n1 14 ins, fk_ai E n2 14 outs, fk_al E n3 7 tk, fk_al E n4 7 pu] (S := (Nat → Nat) × (Nat → Nat)) (fun (u : (Nat → Nat) × (Nat → Nat)) => none) (fun (u : (Nat → Nat) × (Nat → Nat)) => ∀ a, a < 7 → u.1 a = fm_mk (fs_tak (fs_O 0 outs 0) a) ∧ u.2 a = fm_mk (fs_tak (fs_I 0 ins 0) a)) (fun (u : (Nat → Nat) × (Nat → Nat)) => [(n0, .inr (2, [.ref n1, .ref n2, .ref n3, .ref n4, .int (nI 0), .int (nI 0), .int (nI 0), .int (nI 0), .int (nI 0)])), fk_ai E n1 14 ins, fk_ai E n2 14 outs, fk_al E n3 7 u.1, fk_al E n4 7 u.2]) := by
  refine fk_enterV (by decide) (Nat.le_of_ble_eq_true rfl) (lv0 := [(0, .ref n0)]) rfl ?_
  intro K hini hret
  refine fk_aload_n 0 d_Nt_removeAll_0 rfl ?_
  refine fk_iconst (v := nI 0) d_Nt_removeAll_1 (by decide +kernel) ?_
  refine fk_put (w' := [(n0, .inr (2, [.ref n1, .ref n2, .ref n3, .ref n4, .int (nI 0), .int (nI fi), .int (nI la), .int (nI lo), .int (nI me)])), fk_ai E n1 14 ins, fk_ai E n2 14 outs, fk_al E n3 7 tk, fk_al E n4 7 pu]) 0 4 fT_Nt fT_Nt_ok fT_Nt_nm rfl rfl fh_Nt (Nat.le_of_ble_eq_true rfl) fw_48 rfl (fT_Nt_ok 4 (Nat.le_of_ble_eq_true rfl)) rfl rfl (Nat.le_of_ble_eq_true rfl) d_Nt_removeAll_2 rfl ?_
  refine fk_aload_n 0 d_Nt_removeAll_5 rfl ?_
  refine fk_iconst (v := nI 0) d_Nt_removeAll_6 (by decide +kernel) ?_
  refine fk_put (w' := [(n0, .inr (2, [.ref n1, .ref n2, .ref n3, .ref n4, .int (nI 0), .int (nI fi), .int (nI la), .int (nI 0), .int (nI me)])), fk_ai E n1 14 ins, fk_ai E n2 14 outs, fk_al E n3 7 tk, fk_al E n4 7 pu]) 0 7 fT_Nt fT_Nt_ok fT_Nt_nm rfl rfl fh_Nt (Nat.le_of_ble_eq_true rfl) fw_51 rfl (fT_Nt_ok 7 (Nat.le_of_ble_eq_true rfl)) rfl rfl (Nat.le_of_ble_eq_true rfl) d_Nt_removeAll_7 rfl ?_
  refine fk_aload_n 0 d_Nt_removeAll_10 rfl ?_
  refine fk_iconst (v := nI 0) d_Nt_removeAll_11 (by decide +kernel) ?_
  refine fk_iconst (v := nI 0) d_Nt_removeAll_12 (by decide +kernel) ?_
  refine fk_callV (q0 := 0) (As := [.int (nI 0), .int (nI 0)]) (rest := []) (is := [0, 1, 2, 3, 4]) (ir := []) (ip := [0, 1, 2, 3, 4]) (wc := [(n0, .inr (2, [.ref n1, .ref n2, .ref n3, .ref n4, .int (nI 0), .int (nI fi), .int (nI la), .int (nI 0), .int (nI me)])), fk_ai E n1 14 ins, fk_ai E n2 14 outs, fk_al E n3 7 tk, fk_al E n4 7 pu]) (wr := []) (w2 := fun u => [(n0, .inr (2, [.ref n1, .ref n2, .ref n3, .ref n4, .int (nI 0), .int (nI 0), .int (nI 0), .int (nI 0), .int (nI (fs_mem 0 0 0 ins outs 0))])), fk_ai E n1 14 ins, fk_ai E n2 14 outs, fk_al E n3 7 u.1, fk_al E n4 7 u.2]) (cN_setEnds E n0 n1 n2 n3 n4 0 fi la 0 me ins outs tk pu 0 0 (by decide) (fun j hj => absurd hj (Nat.not_lt_zero j)) (by decide) (by decide) (by decide)) d_Nt_removeAll_13 fz_Nt_setEnds fw_264 rfl rfl fw_265 fw_266 ⟨Nat.le_of_ble_eq_true rfl, Nat.le_of_ble_eq_true rfl⟩ rfl (Nat.le_of_ble_eq_true rfl) ⟨Nat.zero_le _, Nat.zero_le _⟩ ⟨rfl, rfl, rfl, rfl, by decide, fun _ => rfl, rfl⟩ (fun u hu13 => ?_)
  obtain ⟨tk9_13, pu9_13⟩ := u
  have hq13 : ∀ a, a < 7 → tk9_13 a = fm_mk (fs_tak (fs_O 0 outs 0) a) ∧ pu9_13 a = fm_mk (fs_tak (fs_I 0 ins 0) a) := hu13
  show fk_V E _ K (0, 0) [(n0, .inr (2, [.ref n1, .ref n2, .ref n3, .ref n4, .int (nI 0), .int (nI 0), .int (nI 0), .int (nI 0), .int (nI (fs_mem 0 0 0 ins outs 0))])), fk_ai E n1 14 ins, fk_ai E n2 14 outs, fk_al E n3 7 tk9_13, fk_al E n4 7 pu9_13] 16 [(0, .ref n0)] []
  have hpp : ∀ a, a < 7 → tk9_13 a = fm_mk (fs_tak (fs_O 0 outs 0) a) ∧ pu9_13 a = fm_mk (fs_tak (fs_I 0 ins 0) a) := hq13
  exact hret (0, 0) _ 16 _ (tk9_13, pu9_13) d_Nt_removeAll_16 (hpp) (rfl)
theorem d_Nt_addPlace_0 : decode prog_4_method_9_code 0 = .ok (.aload_n 0, 1) := by decide +kernel
theorem d_Nt_addPlace_1 : decode prog_4_method_9_code 1 = .ok (.getfield 25, 3) := by decide +kernel
theorem d_Nt_addPlace_4 : decode prog_4_method_9_code 4 = .ok (.bipush 14, 2) := by decide +kernel
theorem d_Nt_addPlace_6 : decode prog_4_method_9_code 6 = .ok (.if_icmp .ne 5, 3) := by decide +kernel
theorem d_Nt_addPlace_9 : decode prog_4_method_9_code 9 = .ok (.iconst 0, 1) := by decide +kernel
theorem d_Nt_addPlace_10 : decode prog_4_method_9_code 10 = .ok (.ireturn, 1) := by decide +kernel
theorem d_Nt_addPlace_11 : decode prog_4_method_9_code 11 = .ok (.aload_n 0, 1) := by decide +kernel
theorem d_Nt_addPlace_12 : decode prog_4_method_9_code 12 = .ok (.getfield 9, 3) := by decide +kernel
theorem d_Nt_addPlace_15 : decode prog_4_method_9_code 15 = .ok (.aload_n 0, 1) := by decide +kernel
theorem d_Nt_addPlace_16 : decode prog_4_method_9_code 16 = .ok (.getfield 25, 3) := by decide +kernel
theorem d_Nt_addPlace_19 : decode prog_4_method_9_code 19 = .ok (.iload_n 1, 1) := by decide +kernel
theorem d_Nt_addPlace_20 : decode prog_4_method_9_code 20 = .ok (.iastore, 1) := by decide +kernel
theorem d_Nt_addPlace_21 : decode prog_4_method_9_code 21 = .ok (.aload_n 0, 1) := by decide +kernel
theorem d_Nt_addPlace_22 : decode prog_4_method_9_code 22 = .ok (.getfield 15, 3) := by decide +kernel
theorem d_Nt_addPlace_25 : decode prog_4_method_9_code 25 = .ok (.aload_n 0, 1) := by decide +kernel
theorem d_Nt_addPlace_26 : decode prog_4_method_9_code 26 = .ok (.getfield 25, 3) := by decide +kernel
theorem d_Nt_addPlace_29 : decode prog_4_method_9_code 29 = .ok (.iload_n 2, 1) := by decide +kernel
theorem d_Nt_addPlace_30 : decode prog_4_method_9_code 30 = .ok (.iastore, 1) := by decide +kernel
theorem d_Nt_addPlace_31 : decode prog_4_method_9_code 31 = .ok (.aload_n 0, 1) := by decide +kernel
theorem d_Nt_addPlace_32 : decode prog_4_method_9_code 32 = .ok (.dup, 1) := by decide +kernel
theorem d_Nt_addPlace_33 : decode prog_4_method_9_code 33 = .ok (.getfield 25, 3) := by decide +kernel
theorem d_Nt_addPlace_36 : decode prog_4_method_9_code 36 = .ok (.iconst 1, 1) := by decide +kernel
theorem d_Nt_addPlace_37 : decode prog_4_method_9_code 37 = .ok (.iadd, 1) := by decide +kernel
theorem d_Nt_addPlace_38 : decode prog_4_method_9_code 38 = .ok (.putfield 25, 3) := by decide +kernel
theorem d_Nt_addPlace_41 : decode prog_4_method_9_code 41 = .ok (.aload_n 0, 1) := by decide +kernel
theorem d_Nt_addPlace_42 : decode prog_4_method_9_code 42 = .ok (.invokevirtual 41, 3) := by decide +kernel
theorem d_Nt_addPlace_45 : decode prog_4_method_9_code 45 = .ok (.iconst 1, 1) := by decide +kernel
theorem d_Nt_addPlace_46 : decode prog_4_method_9_code 46 = .ok (.ireturn, 1) := by decide +kernel
set_option maxRecDepth 20000 in
set_option maxHeartbeats 4000000 in
theorem cN_addPlaceF (E : fk_E) (n0 : Nat) (n1 : Nat) (n2 : Nat) (n3 : Nat) (n4 : Nat) (cnt : Nat) (fi : Nat) (la : Nat) (lo : Nat) (me : Nat) (ins : Nat → Nat) (outs : Nat → Nat) (tk : Nat → Nat) (pu : Nat → Nat) (i : Nat) (o : Nat) (hc : cnt = 14) : fk_C E fy_Nt_addPlace prog_4_method_9_code 3 (some .boolean) 3 0 0 [.ref n0, .int (nI i), .int (nI o)] [(n0, .inr (2, [.ref n1, .ref n2, .ref n3, .ref n4, .int (nI cnt), .int (nI fi), .int (nI la), .int (nI lo), .int (nI me)])), fk_ai E n1 14 ins, fk_ai E n2 14 outs, fk_al E n3 7 tk, fk_al E n4 7 pu] (S := Unit) (fun _ => some (.int (nI (Bool.toNat false)))) (fun _ => True) (fun _ => [(n0, .inr (2, [.ref n1, .ref n2, .ref n3, .ref n4, .int (nI cnt), .int (nI fi), .int (nI la), .int (nI lo), .int (nI me)])), fk_ai E n1 14 ins, fk_ai E n2 14 outs, fk_al E n3 7 tk, fk_al E n4 7 pu]) := by
  refine fk_enterZ (v := fun _ => false) (by decide) (Nat.le_of_ble_eq_true rfl) (lv0 := [(0, .ref n0), (1, .int (nI i)), (2, .int (nI o))]) rfl ?_
  intro K hini hret
  refine fk_aload_n 0 d_Nt_addPlace_0 rfl ?_
  refine fk_get 0 4 rfl rfl fh_Nt (Nat.le_of_ble_eq_true rfl) fw_48 rfl d_Nt_addPlace_1 ?_
  refine fk_bipush (v := nI 14) d_Nt_addPlace_4 (by decide +kernel) ?_
  refine fk_icmp_ne (a := cnt) (b := 14) (by omega) (by omega) d_Nt_addPlace_6 rfl (fun h6t => ?_) (fun h6f => ?_)
  · exact absurd hc h6t
  · refine fk_iconst (v := nI 0) d_Nt_addPlace_9 (by decide +kernel) ?_
    refine fk_top (fn_rf (b := false) (by first | assumption | (simp; omega) | simp_all | (simp_all; omega))) ?_
    exact hret (0, 0) _ 10 _ () d_Nt_addPlace_10 (trivial) (rfl)
set_option maxRecDepth 20000 in
set_option maxHeartbeats 4000000 in
theorem cN_addPlace (E : fk_E) (n0 : Nat) (n1 : Nat) (n2 : Nat) (n3 : Nat) (n4 : Nat) (cnt : Nat) (fi : Nat) (la : Nat) (lo : Nat) (me : Nat) (ins : Nat → Nat) (outs : Nat → Nat) (tk : Nat → Nat) (pu : Nat → Nat) (i : Nat) (o : Nat) (hc : cnt < 14) (hb : ∀ j, j < cnt → ins j < 128 ∧ outs j < 128) (hf : fi < 128) (hl : la < 128) (hL : lo < 128) (hi : i < 128) (ho : o < 128) : fk_C E fy_Nt_addPlace prog_4_method_9_code 3 (some .boolean) 3 0 0 [.ref n0, .int (nI i), .int (nI o)] [(n0, .inr (2, [.ref n1, .ref n2, .ref n3, .ref n4, .int (nI cnt), .int (nI fi), .int (nI la), .int (nI lo), .int (nI me)])), fk_ai E n1 14 ins, fk_ai E n2 14 outs, fk_al E n3 7 tk, fk_al E n4 7 pu] (S := (Nat → Nat) × (Nat → Nat)) (fun (u : (Nat → Nat) × (Nat → Nat)) => some (.int (nI (Bool.toNat true)))) (fun (u : (Nat → Nat) × (Nat → Nat)) => ∀ a, a < 7 → u.1 a = fm_mk (fs_tak (fs_O (cnt + 1) (va_up outs cnt o) fi) a) ∧ u.2 a = fm_mk (fs_tak (fs_I (cnt + 1) (va_up ins cnt i) la) a)) (fun (u : (Nat → Nat) × (Nat → Nat)) => [(n0, .inr (2, [.ref n1, .ref n2, .ref n3, .ref n4, .int (nI (cnt + 1)), .int (nI fi), .int (nI la), .int (nI lo), .int (nI (fs_mem lo fi la (va_up ins cnt i) (va_up outs cnt o) (cnt + 1)))])), fk_ai E n1 14 (va_up ins cnt i), fk_ai E n2 14 (va_up outs cnt o), fk_al E n3 7 u.1, fk_al E n4 7 u.2]) := by
  refine fk_enterZ (v := fun (u : (Nat → Nat) × (Nat → Nat)) => true) (by decide) (Nat.le_of_ble_eq_true rfl) (lv0 := [(0, .ref n0), (1, .int (nI i)), (2, .int (nI o))]) rfl ?_
  intro K hini hret
  refine fk_aload_n 0 d_Nt_addPlace_0 rfl ?_
  refine fk_get 0 4 rfl rfl fh_Nt (Nat.le_of_ble_eq_true rfl) fw_48 rfl d_Nt_addPlace_1 ?_
  refine fk_bipush (v := nI 14) d_Nt_addPlace_4 (by decide +kernel) ?_
  refine fk_icmp_ne (a := cnt) (b := 14) (by omega) (by omega) d_Nt_addPlace_6 rfl (fun h6t => ?_) (fun h6f => ?_)
  · refine fk_aload_n 0 d_Nt_addPlace_11 rfl ?_
    refine fk_get 0 0 rfl rfl fh_Nt (Nat.le_of_ble_eq_true rfl) fw_44 rfl d_Nt_addPlace_12 ?_
    refine fk_aload_n 0 d_Nt_addPlace_15 rfl ?_
    refine fk_get 0 4 rfl rfl fh_Nt (Nat.le_of_ble_eq_true rfl) fw_48 rfl d_Nt_addPlace_16 ?_
    refine fk_iload_n 1 d_Nt_addPlace_19 rfl ?_
    refine fk_st_ai (i := cnt) (x := i) (w' := [(n0, .inr (2, [.ref n1, .ref n2, .ref n3, .ref n4, .int (nI cnt), .int (nI fi), .int (nI la), .int (nI lo), .int (nI me)])), fk_ai E n1 14 (va_up ins cnt i), fk_ai E n2 14 outs, fk_al E n3 7 tk, fk_al E n4 7 pu]) 1 rfl (by omega) (by decide) d_Nt_addPlace_20 rfl ?_
    refine fk_aload_n 0 d_Nt_addPlace_21 rfl ?_
    refine fk_get 0 1 rfl rfl fh_Nt (Nat.le_of_ble_eq_true rfl) fw_45 rfl d_Nt_addPlace_22 ?_
    refine fk_aload_n 0 d_Nt_addPlace_25 rfl ?_
    refine fk_get 0 4 rfl rfl fh_Nt (Nat.le_of_ble_eq_true rfl) fw_48 rfl d_Nt_addPlace_26 ?_
    refine fk_iload_n 2 d_Nt_addPlace_29 rfl ?_
    refine fk_st_ai (i := cnt) (x := o) (w' := [(n0, .inr (2, [.ref n1, .ref n2, .ref n3, .ref n4, .int (nI cnt), .int (nI fi), .int (nI la), .int (nI lo), .int (nI me)])), fk_ai E n1 14 (va_up ins cnt i), fk_ai E n2 14 (va_up outs cnt o), fk_al E n3 7 tk, fk_al E n4 7 pu]) 2 rfl (by omega) (by decide) d_Nt_addPlace_30 rfl ?_
    refine fk_aload_n 0 d_Nt_addPlace_31 rfl ?_
    refine fk_dup d_Nt_addPlace_32 rfl ?_
    refine fk_get 0 4 rfl rfl fh_Nt (Nat.le_of_ble_eq_true rfl) fw_48 rfl d_Nt_addPlace_33 ?_
    refine fk_iconst (v := nI 1) d_Nt_addPlace_36 (by decide +kernel) ?_
    refine fk_iadd (a := cnt) (b := 1) d_Nt_addPlace_37 ?_
    refine fk_put (w' := [(n0, .inr (2, [.ref n1, .ref n2, .ref n3, .ref n4, .int (nI (cnt + 1)), .int (nI fi), .int (nI la), .int (nI lo), .int (nI me)])), fk_ai E n1 14 (va_up ins cnt i), fk_ai E n2 14 (va_up outs cnt o), fk_al E n3 7 tk, fk_al E n4 7 pu]) 0 4 fT_Nt fT_Nt_ok fT_Nt_nm rfl rfl fh_Nt (Nat.le_of_ble_eq_true rfl) fw_48 rfl (fT_Nt_ok 4 (Nat.le_of_ble_eq_true rfl)) rfl rfl (Nat.le_of_ble_eq_true rfl) d_Nt_addPlace_38 rfl ?_
    refine fk_aload_n 0 d_Nt_addPlace_41 rfl ?_
    refine fk_callV (q0 := 0) (As := []) (rest := []) (is := [0, 1, 2, 3, 4]) (ir := []) (ip := [0, 1, 2, 3, 4]) (wc := [(n0, .inr (2, [.ref n1, .ref n2, .ref n3, .ref n4, .int (nI (cnt + 1)), .int (nI fi), .int (nI la), .int (nI lo), .int (nI me)])), fk_ai E n1 14 (va_up ins cnt i), fk_ai E n2 14 (va_up outs cnt o), fk_al E n3 7 tk, fk_al E n4 7 pu]) (wr := []) (w2 := fun u => [(n0, .inr (2, [.ref n1, .ref n2, .ref n3, .ref n4, .int (nI (cnt + 1)), .int (nI fi), .int (nI la), .int (nI lo), .int (nI (fs_mem lo fi la (va_up ins cnt i) (va_up outs cnt o) (cnt + 1)))])), fk_ai E n1 14 (va_up ins cnt i), fk_ai E n2 14 (va_up outs cnt o), fk_al E n3 7 u.1, fk_al E n4 7 u.2]) (cN_prepareFiring E n0 n1 n2 n3 n4 (cnt + 1) fi la lo me (va_up ins cnt i) (va_up outs cnt o) tk pu (by first | omega | assumption) (fun j hj => by
  rcases Nat.lt_or_ge j cnt with q | q
  · rw [va_up_ne _ _ (by omega), va_up_ne _ _ (by omega)]; exact hb j q
  · rw [show j = cnt by omega, va_up_self, va_up_self]; exact ⟨hi, ho⟩) (by first | omega | assumption) (by first | omega | assumption) (by first | omega | assumption)) d_Nt_addPlace_42 fz_Nt_prepareFiring fw_268 rfl rfl fw_270 fw_p4 ⟨Nat.le_of_ble_eq_true rfl, Nat.le_of_ble_eq_true rfl⟩ rfl (Nat.le_of_ble_eq_true rfl) ⟨Nat.zero_le _, Nat.zero_le _⟩ ⟨rfl, rfl, rfl, rfl, by decide, fun _ => rfl, rfl⟩ (fun u hu42 => ?_)
    obtain ⟨tk9_42, pu9_42⟩ := u
    have hq42 : ∀ a, a < 7 → tk9_42 a = fm_mk (fs_tak (fs_O (cnt + 1) (va_up outs cnt o) fi) a) ∧ pu9_42 a = fm_mk (fs_tak (fs_I (cnt + 1) (va_up ins cnt i) la) a) := hu42
    show fk_V E _ K (0, 0) [(n0, .inr (2, [.ref n1, .ref n2, .ref n3, .ref n4, .int (nI (cnt + 1)), .int (nI fi), .int (nI la), .int (nI lo), .int (nI (fs_mem lo fi la (va_up ins cnt i) (va_up outs cnt o) (cnt + 1)))])), fk_ai E n1 14 (va_up ins cnt i), fk_ai E n2 14 (va_up outs cnt o), fk_al E n3 7 tk9_42, fk_al E n4 7 pu9_42] 45 [(0, .ref n0), (1, .int (nI i)), (2, .int (nI o))] []
    refine fk_iconst (v := nI 1) d_Nt_addPlace_45 (by decide +kernel) ?_
    refine fk_top (fn_rt (b := true) (by first | assumption | (simp; omega) | simp_all | (simp_all; omega))) ?_
    have hpp : ∀ a, a < 7 → tk9_42 a = fm_mk (fs_tak (fs_O (cnt + 1) (va_up outs cnt o) fi) a) ∧ pu9_42 a = fm_mk (fs_tak (fs_I (cnt + 1) (va_up ins cnt i) la) a) := hq42
    exact hret (0, 0) _ 46 _ (tk9_42, pu9_42) d_Nt_addPlace_46 (hpp) (rfl)
  · omega
theorem d_Nt_enabledIn_0 : decode prog_4_method_15_code 0 = .ok (.lload_n 1, 1) := by decide +kernel
theorem d_Nt_enabledIn_1 : decode prog_4_method_15_code 1 = .ok (.lload_n 1, 1) := by decide +kernel
theorem d_Nt_enabledIn_2 : decode prog_4_method_15_code 2 = .ok (.iconst 1, 1) := by decide +kernel
theorem d_Nt_enabledIn_3 : decode prog_4_method_15_code 3 = .ok (.lushr, 1) := by decide +kernel
theorem d_Nt_enabledIn_4 : decode prog_4_method_15_code 4 = .ok (.lor, 1) := by decide +kernel
theorem d_Nt_enabledIn_5 : decode prog_4_method_15_code 5 = .ok (.lload_n 1, 1) := by decide +kernel
theorem d_Nt_enabledIn_6 : decode prog_4_method_15_code 6 = .ok (.iconst 2, 1) := by decide +kernel
theorem d_Nt_enabledIn_7 : decode prog_4_method_15_code 7 = .ok (.lushr, 1) := by decide +kernel
theorem d_Nt_enabledIn_8 : decode prog_4_method_15_code 8 = .ok (.lor, 1) := by decide +kernel
theorem d_Nt_enabledIn_9 : decode prog_4_method_15_code 9 = .ok (.lload_n 1, 1) := by decide +kernel
theorem d_Nt_enabledIn_10 : decode prog_4_method_15_code 10 = .ok (.iconst 3, 1) := by decide +kernel
theorem d_Nt_enabledIn_11 : decode prog_4_method_15_code 11 = .ok (.lushr, 1) := by decide +kernel
theorem d_Nt_enabledIn_12 : decode prog_4_method_15_code 12 = .ok (.lor, 1) := by decide +kernel
theorem d_Nt_enabledIn_13 : decode prog_4_method_15_code 13 = .ok (.ldc2_w 64, 3) := by decide +kernel
theorem d_Nt_enabledIn_16 : decode prog_4_method_15_code 16 = .ok (.land, 1) := by decide +kernel
theorem d_Nt_enabledIn_17 : decode prog_4_method_15_code 17 = .ok (.lstore_n 3, 1) := by decide +kernel
theorem d_Nt_enabledIn_18 : decode prog_4_method_15_code 18 = .ok (.iconst 0, 1) := by decide +kernel
theorem d_Nt_enabledIn_19 : decode prog_4_method_15_code 19 = .ok (.istore 5, 2) := by decide +kernel
theorem d_Nt_enabledIn_21 : decode prog_4_method_15_code 21 = .ok (.iconst 0, 1) := by decide +kernel
theorem d_Nt_enabledIn_22 : decode prog_4_method_15_code 22 = .ok (.istore 6, 2) := by decide +kernel
theorem d_Nt_enabledIn_24 : decode prog_4_method_15_code 24 = .ok (.iload 6, 2) := by decide +kernel
theorem d_Nt_enabledIn_26 : decode prog_4_method_15_code 26 = .ok (.bipush 7, 2) := by decide +kernel
theorem d_Nt_enabledIn_28 : decode prog_4_method_15_code 28 = .ok (.if_icmp .ge 36, 3) := by decide +kernel
theorem d_Nt_enabledIn_31 : decode prog_4_method_15_code 31 = .ok (.aload_n 0, 1) := by decide +kernel
theorem d_Nt_enabledIn_32 : decode prog_4_method_15_code 32 = .ok (.getfield 18, 3) := by decide +kernel
theorem d_Nt_enabledIn_35 : decode prog_4_method_15_code 35 = .ok (.iload 6, 2) := by decide +kernel
theorem d_Nt_enabledIn_37 : decode prog_4_method_15_code 37 = .ok (.laload, 1) := by decide +kernel
theorem d_Nt_enabledIn_38 : decode prog_4_method_15_code 38 = .ok (.lload_n 3, 1) := by decide +kernel
theorem d_Nt_enabledIn_39 : decode prog_4_method_15_code 39 = .ok (.ldc2_w 66, 3) := by decide +kernel
theorem d_Nt_enabledIn_42 : decode prog_4_method_15_code 42 = .ok (.lxor, 1) := by decide +kernel
theorem d_Nt_enabledIn_43 : decode prog_4_method_15_code 43 = .ok (.land, 1) := by decide +kernel
theorem d_Nt_enabledIn_44 : decode prog_4_method_15_code 44 = .ok (.lconst 0, 1) := by decide +kernel
theorem d_Nt_enabledIn_45 : decode prog_4_method_15_code 45 = .ok (.lcmp, 1) := by decide +kernel
theorem d_Nt_enabledIn_46 : decode prog_4_method_15_code 46 = .ok (.ifCond .ne 12, 3) := by decide +kernel
theorem d_Nt_enabledIn_49 : decode prog_4_method_15_code 49 = .ok (.iload 5, 2) := by decide +kernel
theorem d_Nt_enabledIn_51 : decode prog_4_method_15_code 51 = .ok (.iconst 1, 1) := by decide +kernel
theorem d_Nt_enabledIn_52 : decode prog_4_method_15_code 52 = .ok (.iload 6, 2) := by decide +kernel
theorem d_Nt_enabledIn_54 : decode prog_4_method_15_code 54 = .ok (.ishl, 1) := by decide +kernel
theorem d_Nt_enabledIn_55 : decode prog_4_method_15_code 55 = .ok (.ior, 1) := by decide +kernel
theorem d_Nt_enabledIn_56 : decode prog_4_method_15_code 56 = .ok (.istore 5, 2) := by decide +kernel
theorem d_Nt_enabledIn_58 : decode prog_4_method_15_code 58 = .ok (.iinc 6 1, 3) := by decide +kernel
theorem d_Nt_enabledIn_61 : decode prog_4_method_15_code 61 = .ok (.goto (-37), 3) := by decide +kernel
theorem d_Nt_enabledIn_64 : decode prog_4_method_15_code 64 = .ok (.iload 5, 2) := by decide +kernel
theorem d_Nt_enabledIn_66 : decode prog_4_method_15_code 66 = .ok (.aload_n 0, 1) := by decide +kernel
theorem d_Nt_enabledIn_67 : decode prog_4_method_15_code 67 = .ok (.getfield 38, 3) := by decide +kernel
theorem d_Nt_enabledIn_70 : decode prog_4_method_15_code 70 = .ok (.iand, 1) := by decide +kernel
theorem d_Nt_enabledIn_71 : decode prog_4_method_15_code 71 = .ok (.ireturn, 1) := by decide +kernel
set_option maxRecDepth 20000 in
set_option maxHeartbeats 4000000 in
theorem cN_enabledIn (E : fk_E) (n0 : Nat) (n1 : Nat) (n2 : Nat) (n3 : Nat) (n4 : Nat) (cnt : Nat) (fi : Nat) (la : Nat) (lo : Nat) (me : Nat) (tk : Nat → Nat) (O : Nat → Nat) (x : Nat) (hx : x < 2 ^ 64) (hm : me < 128) (hk : ∀ a, a < 7 → tk a = fm_mk (fs_tak O a)) : fk_C E fy_Nt_enabledIn prog_4_method_15_code 7 (some .int) 0 0 0 [.ref n0, .long (lN x)] [(n0, .inr (2, [.ref n1, .ref n2, .ref n3, .ref n4, .int (nI cnt), .int (nI fi), .int (nI la), .int (nI lo), .int (nI me)])), fk_al E n3 7 tk] (S := Unit) (fun _ => some (.int (nI (fs_ens O me x)))) (fun _ => True) (fun _ => [(n0, .inr (2, [.ref n1, .ref n2, .ref n3, .ref n4, .int (nI cnt), .int (nI fi), .int (nI la), .int (nI lo), .int (nI me)])), fk_al E n3 7 tk]) := by
  refine fk_enterI (v := fun _ => (nI (fs_ens O me x))) (by decide) (Nat.le_of_ble_eq_true rfl) (lv0 := [(0, .ref n0), (1, .long (lN x))]) rfl ?_
  intro K hini hret
  refine fk_lload_n 1 d_Nt_enabledIn_0 rfl ?_
  refine fk_lload_n 1 d_Nt_enabledIn_1 rfl ?_
  refine fk_iconst (v := nI 1) d_Nt_enabledIn_2 (by decide +kernel) ?_
  refine fk_lushr d_Nt_enabledIn_3 (fn_lushr (a := x) (k := 1) (hx) (by decide)) ?_
  refine fk_lorR d_Nt_enabledIn_4 ?_
  refine fk_topl (show lN x ||| lN (x / 2 ^ 1) = lN (x ||| (x / 2 ^ 1)) from fn_lor (hx) (fm_div_lt hx)) ?_
  refine fk_lload_n 1 d_Nt_enabledIn_5 rfl ?_
  refine fk_iconst (v := nI 2) d_Nt_enabledIn_6 (by decide +kernel) ?_
  refine fk_lushr d_Nt_enabledIn_7 (fn_lushr (a := x) (k := 2) (hx) (by decide)) ?_
  refine fk_lorR d_Nt_enabledIn_8 ?_
  refine fk_topl (show lN (x ||| (x / 2 ^ 1)) ||| lN (x / 2 ^ 2) = lN ((x ||| (x / 2 ^ 1)) ||| (x / 2 ^ 2)) from fn_lor (fm_or_lt hx (fm_div_lt hx)) (fm_div_lt hx)) ?_
  refine fk_lload_n 1 d_Nt_enabledIn_9 rfl ?_
  refine fk_iconst (v := nI 3) d_Nt_enabledIn_10 (by decide +kernel) ?_
  refine fk_lushr d_Nt_enabledIn_11 (fn_lushr (a := x) (k := 3) (hx) (by decide)) ?_
  refine fk_lorR d_Nt_enabledIn_12 ?_
  refine fk_topl (show lN ((x ||| (x / 2 ^ 1)) ||| (x / 2 ^ 2)) ||| lN (x / 2 ^ 3) = lN (((x ||| (x / 2 ^ 1)) ||| (x / 2 ^ 2)) ||| (x / 2 ^ 3)) from fn_lor (fm_or_lt (fm_or_lt hx (fm_div_lt hx)) (fm_div_lt hx)) (fm_div_lt hx)) ?_
  refine fk_ldc2 (v := (1229782938247303441 : Int64)) d_Nt_enabledIn_13 fw_372 ?_
  refine fk_topl (show (1229782938247303441 : Int64) = lN 1229782938247303441 by decide +kernel) ?_
  refine fk_landR d_Nt_enabledIn_16 ?_
  refine fk_topl (show lN (((x ||| (x / 2 ^ 1)) ||| (x / 2 ^ 2)) ||| (x / 2 ^ 3)) &&& lN 1229782938247303441 = lN ((((x ||| (x / 2 ^ 1)) ||| (x / 2 ^ 2)) ||| (x / 2 ^ 3)) &&& 1229782938247303441) from fn_land (fm_or_lt (fm_or_lt (fm_or_lt hx (fm_div_lt hx)) (fm_div_lt hx)) (fm_div_lt hx)) (by decide)) ?_
  refine fk_topl (show (lN ((((x ||| (x / 2 ^ 1)) ||| (x / 2 ^ 2)) ||| (x / 2 ^ 3)) &&& 1229782938247303441)) = (lN (fm_held x)) from rfl) ?_
  refine fk_lstore_n (lv' := [(0, .ref n0), (1, .long (lN x)), (3, .long (lN (fm_held x)))]) d_Nt_enabledIn_17 rfl (Nat.le_of_ble_eq_true rfl) [1, 2, 0] rfl ?_
  refine fk_iconst (v := nI 0) d_Nt_enabledIn_18 (by decide +kernel) ?_
  refine fk_istore (lv' := [(0, .ref n0), (1, .long (lN x)), (3, .long (lN (fm_held x))), (5, .int (nI 0))]) d_Nt_enabledIn_19 (Nat.le_of_ble_eq_true rfl) [1, 2, 3, 0] rfl ?_
  refine fk_iconst (v := nI 0) d_Nt_enabledIn_21 (by decide +kernel) ?_
  refine fk_istore (lv' := [(0, .ref n0), (1, .long (lN x)), (3, .long (lN (fm_held x))), (5, .int (nI 0)), (6, .int (nI 0))]) d_Nt_enabledIn_22 (Nat.le_of_ble_eq_true rfl) [1, 2, 3, 4, 0] rfl ?_
  have L24 : ∀ (fuel : Nat) (s : Nat) (i : Nat), (i ≤ 7) → (s = fs_set (fs_can O x) i) → 7 - i < fuel → fk_V E (prog_4_method_15_code, fy_Nt_enabledIn.cls, 7, fk_rm 0 0 0) K (0, 0) [(n0, .inr (2, [.ref n1, .ref n2, .ref n3, .ref n4, .int (nI cnt), .int (nI fi), .int (nI la), .int (nI lo), .int (nI me)])), fk_al E n3 7 tk] 24 [(0, .ref n0), (3, .long (lN (fm_held x))), (5, .int (nI s)), (6, .int (nI i))] [] := by
    intro fuel
    induction fuel with
    | zero => intro s i _ _ hm; exact absurd hm (Nat.not_lt_zero _)
    | succ fuel ih =>
      intro s i h1 h2 hm24
      have ih24 := ih
      clear ih
      refine fk_iload 3 d_Nt_enabledIn_24 rfl ?_
      refine fk_bipush (v := nI 7) d_Nt_enabledIn_26 (by decide +kernel) ?_
      refine fk_icmp_ge (a := i) (b := 7) (by omega) (by omega) d_Nt_enabledIn_28 rfl (fun h28t => ?_) (fun h28f => ?_)
      · refine fk_iload 2 d_Nt_enabledIn_64 rfl ?_
        refine fk_aload_n 0 d_Nt_enabledIn_66 rfl ?_
        refine fk_get 0 8 rfl rfl fh_Nt (Nat.le_of_ble_eq_true rfl) fw_52 rfl d_Nt_enabledIn_67 ?_
        refine fk_iand (a := s) (b := me) d_Nt_enabledIn_70 ?_
        refine fk_top (congrArg nI (show s &&& me = fs_ens O me x from by rw [h2, show i = 7 by omega]; exact fs_ens_and hm)) ?_
        exact hret (0, 0) _ 71 _ () d_Nt_enabledIn_71 (trivial) (rfl)
      · have h9 := hk i h28f
        have h8 : tk i < 2 ^ 64 := by rw [h9]; exact fm_mk_lt _
        have h7 : fm_held x ^^^ 18446744073709551615 < 2 ^ 64 := Nat.xor_lt_two_pow (fm_held_lt x) (by decide)
        refine fk_aload_n 0 d_Nt_enabledIn_31 rfl ?_
        refine fk_get 0 2 rfl rfl fh_Nt (Nat.le_of_ble_eq_true rfl) fw_46 rfl d_Nt_enabledIn_32 ?_
        refine fk_iload 3 d_Nt_enabledIn_35 rfl ?_
        refine fk_ld_al (i := i) 1 rfl (by omega) (by decide) d_Nt_enabledIn_37 ?_
        refine fk_lload_n 1 d_Nt_enabledIn_38 rfl ?_
        refine fk_ldc2 (v := (-1 : Int64)) d_Nt_enabledIn_39 fw_373 ?_
        refine fk_topl (show (-1 : Int64) = lN 18446744073709551615 by decide +kernel) ?_
        refine fk_lxorR d_Nt_enabledIn_42 ?_
        refine fk_topl (show lN (fm_held x) ^^^ lN 18446744073709551615 = lN ((fm_held x) ^^^ 18446744073709551615) from fn_lxor (fm_held_lt x) (by decide)) ?_
        refine fk_landR d_Nt_enabledIn_43 ?_
        refine fk_topl (show lN (tk i) &&& lN ((fm_held x) ^^^ 18446744073709551615) = lN ((tk i) &&& ((fm_held x) ^^^ 18446744073709551615)) from fn_land (h8) (h7)) ?_
        refine fk_lconst (v := lN 0) d_Nt_enabledIn_44 rfl ?_
        refine fk_lcmpR d_Nt_enabledIn_45 ?_
        refine fk_cmp_ne (a := ((tk i) &&& ((fm_held x) ^^^ 18446744073709551615))) (b := 0) (Nat.lt_of_le_of_lt Nat.and_le_left h8) (by decide) d_Nt_enabledIn_46 rfl (fun h46t => ?_) (fun h46f => ?_)
        · rw [h9] at h46t
          refine fk_iinc (j := 3) (lv' := [(0, .ref n0), (3, .long (lN (fm_held x))), (5, .int (nI s)), (6, .int (nI (i + 1)))]) (i + 1) d_Nt_enabledIn_58 rfl (nI_1 i) (Nat.le_of_ble_eq_true rfl) [1, 2, 3, 0] rfl ?_
          refine fk_goto d_Nt_enabledIn_61 rfl ?_
          refine ih24 _ _ ?_ ?_ ?_
          · first | omega | assumption | exact Nat.zero_le _
          · first | (rw [h2]; exact fs_set_t (fs_can_en.mp h46f)) | (rw [h2]; refine fs_set_f ?_; cases hq : fs_can O x i with | false => rfl | true => exact absurd (fs_can_en.mpr hq) h46t)
          · omega
        · rw [h9] at h46f
          refine fk_iload 2 d_Nt_enabledIn_49 rfl ?_
          refine fk_iconst (v := nI 1) d_Nt_enabledIn_51 (by decide +kernel) ?_
          refine fk_iload 3 d_Nt_enabledIn_52 rfl ?_
          refine fk_ishl (a := 1) (b := i) d_Nt_enabledIn_54 (by omega) (by have := fb_pow_lt h28f; omega) ?_
          refine fk_top (show nI (1 * 2 ^ i) = nI (2 ^ i) by rw [Nat.one_mul]) ?_
          refine fk_ior (a := s) (b := (2 ^ i)) d_Nt_enabledIn_55 ?_
          refine fk_istore (lv' := [(0, .ref n0), (3, .long (lN (fm_held x))), (5, .int (nI (s ||| (2 ^ i)))), (6, .int (nI i))]) d_Nt_enabledIn_56 (Nat.le_of_ble_eq_true rfl) [1, 2, 0, 3] rfl ?_
          refine fk_iinc (j := 3) (lv' := [(0, .ref n0), (3, .long (lN (fm_held x))), (5, .int (nI (s ||| (2 ^ i)))), (6, .int (nI (i + 1)))]) (i + 1) d_Nt_enabledIn_58 rfl (nI_1 i) (Nat.le_of_ble_eq_true rfl) [1, 2, 3, 0] rfl ?_
          refine fk_goto d_Nt_enabledIn_61 rfl ?_
          refine ih24 _ _ ?_ ?_ ?_
          · first | omega | assumption | exact Nat.zero_le _
          · first | (rw [h2]; exact fs_set_t (fs_can_en.mp h46f)) | (rw [h2]; refine fs_set_f ?_; cases hq : fs_can O x i with | false => rfl | true => exact absurd (fs_can_en.mpr hq) h46t)
          · omega
  refine fk_lv (lv' := [(0, .ref n0), (3, .long (lN (fm_held x))), (5, .int (nI 0)), (6, .int (nI 0))]) [0, 2, 3, 4] rfl ?_
  refine L24 _ _ _ ?_ ?_ (Nat.lt_succ_self _)
  · first | omega | assumption | exact Nat.zero_le _
  · rfl
theorem d_Nt_afterFiring_0 : decode prog_4_method_16_code 0 = .ok (.lload_n 1, 1) := by decide +kernel
theorem d_Nt_afterFiring_1 : decode prog_4_method_16_code 1 = .ok (.aload_n 0, 1) := by decide +kernel
theorem d_Nt_afterFiring_2 : decode prog_4_method_16_code 2 = .ok (.getfield 18, 3) := by decide +kernel
theorem d_Nt_afterFiring_5 : decode prog_4_method_16_code 5 = .ok (.iload_n 3, 1) := by decide +kernel
theorem d_Nt_afterFiring_6 : decode prog_4_method_16_code 6 = .ok (.laload, 1) := by decide +kernel
theorem d_Nt_afterFiring_7 : decode prog_4_method_16_code 7 = .ok (.lsub, 1) := by decide +kernel
theorem d_Nt_afterFiring_8 : decode prog_4_method_16_code 8 = .ok (.aload_n 0, 1) := by decide +kernel
theorem d_Nt_afterFiring_9 : decode prog_4_method_16_code 9 = .ok (.getfield 22, 3) := by decide +kernel
theorem d_Nt_afterFiring_12 : decode prog_4_method_16_code 12 = .ok (.iload_n 3, 1) := by decide +kernel
theorem d_Nt_afterFiring_13 : decode prog_4_method_16_code 13 = .ok (.laload, 1) := by decide +kernel
theorem d_Nt_afterFiring_14 : decode prog_4_method_16_code 14 = .ok (.ladd, 1) := by decide +kernel
theorem d_Nt_afterFiring_15 : decode prog_4_method_16_code 15 = .ok (.lreturn, 1) := by decide +kernel
set_option maxRecDepth 20000 in
set_option maxHeartbeats 4000000 in
theorem cN_afterFiring (E : fk_E) (n0 : Nat) (n1 : Nat) (n2 : Nat) (n3 : Nat) (n4 : Nat) (cnt : Nat) (fi : Nat) (la : Nat) (lo : Nat) (me : Nat) (tk : Nat → Nat) (pu : Nat → Nat) (O : Nat → Nat) (I : Nat → Nat) (x : Nat) (a : Nat) (hx : x < 2 ^ 64) (ha : a < 7) (hk : ∀ a, a < 7 → tk a = fm_mk (fs_tak O a)) (hu : ∀ a, a < 7 → pu a = fm_mk (fs_tak I a)) (hc : fs_can O x a = true) : fk_C E fy_Nt_afterFiring prog_4_method_16_code 4 (some .long) 0 0 0 [.ref n0, .long (lN x), .int (nI a)] [(n0, .inr (2, [.ref n1, .ref n2, .ref n3, .ref n4, .int (nI cnt), .int (nI fi), .int (nI la), .int (nI lo), .int (nI me)])), fk_al E n3 7 tk, fk_al E n4 7 pu] (S := Unit) (fun _ => some (.long (lN (fs_fire O I x a)))) (fun _ => True) (fun _ => [(n0, .inr (2, [.ref n1, .ref n2, .ref n3, .ref n4, .int (nI cnt), .int (nI fi), .int (nI la), .int (nI lo), .int (nI me)])), fk_al E n3 7 tk, fk_al E n4 7 pu]) := by
  refine fk_enterL (v := fun _ => (lN (fs_fire O I x a))) (by decide) (Nat.le_of_ble_eq_true rfl) (lv0 := [(0, .ref n0), (1, .long (lN x)), (3, .int (nI a))]) rfl ?_
  intro K hini hret
  refine fk_lload_n 1 d_Nt_afterFiring_0 rfl ?_
  refine fk_aload_n 0 d_Nt_afterFiring_1 rfl ?_
  refine fk_get 0 2 rfl rfl fh_Nt (Nat.le_of_ble_eq_true rfl) fw_46 rfl d_Nt_afterFiring_2 ?_
  refine fk_iload_n 2 d_Nt_afterFiring_5 rfl ?_
  refine fk_ld_al (i := a) 1 rfl (by omega) (by decide) d_Nt_afterFiring_6 ?_
  refine fk_lsubR d_Nt_afterFiring_7 ?_
  refine fk_topl (show lN x - lN (tk a) = lN (x - (tk a)) from fn_lsub (by rw [hk a ha]; have := fm_take_le (fs_tak O a) hx (fs_can_iff.mp hc); omega)) ?_
  refine fk_aload_n 0 d_Nt_afterFiring_8 rfl ?_
  refine fk_get 0 3 rfl rfl fh_Nt (Nat.le_of_ble_eq_true rfl) fw_47 rfl d_Nt_afterFiring_9 ?_
  refine fk_iload_n 2 d_Nt_afterFiring_12 rfl ?_
  refine fk_ld_al (i := a) 2 rfl (by omega) (by decide) d_Nt_afterFiring_13 ?_
  refine fk_laddR d_Nt_afterFiring_14 ?_
  refine fk_topl (show lN (x - (tk a)) + lN (pu a) = lN ((x - (tk a)) + (pu a)) from fn_ladd) ?_
  refine fk_topl (congrArg lN (show (x - (tk a)) + (pu a) = fs_fire O I x a from by rw [hk a ha, hu a ha]; exact fm_fire_eq _ _ hx (fs_can_iff.mp hc))) ?_
  exact hret (0, 0) _ 15 _ () d_Nt_afterFiring_15 (trivial) (rfl)
theorem d_It_bitCount_0 : decode prog_9_method_49_code 0 = .ok (.iload_n 0, 1) := by decide +kernel
theorem d_It_bitCount_1 : decode prog_9_method_49_code 1 = .ok (.iload_n 0, 1) := by decide +kernel
theorem d_It_bitCount_2 : decode prog_9_method_49_code 2 = .ok (.iconst 1, 1) := by decide +kernel
theorem d_It_bitCount_3 : decode prog_9_method_49_code 3 = .ok (.iushr, 1) := by decide +kernel
theorem d_It_bitCount_4 : decode prog_9_method_49_code 4 = .ok (.ldc_w 265, 3) := by decide +kernel
theorem d_It_bitCount_7 : decode prog_9_method_49_code 7 = .ok (.iand, 1) := by decide +kernel
theorem d_It_bitCount_8 : decode prog_9_method_49_code 8 = .ok (.isub, 1) := by decide +kernel
theorem d_It_bitCount_9 : decode prog_9_method_49_code 9 = .ok (.istore_n 0, 1) := by decide +kernel
theorem d_It_bitCount_10 : decode prog_9_method_49_code 10 = .ok (.iload_n 0, 1) := by decide +kernel
theorem d_It_bitCount_11 : decode prog_9_method_49_code 11 = .ok (.ldc_w 266, 3) := by decide +kernel
theorem d_It_bitCount_14 : decode prog_9_method_49_code 14 = .ok (.iand, 1) := by decide +kernel
theorem d_It_bitCount_15 : decode prog_9_method_49_code 15 = .ok (.iload_n 0, 1) := by decide +kernel
theorem d_It_bitCount_16 : decode prog_9_method_49_code 16 = .ok (.iconst 2, 1) := by decide +kernel
theorem d_It_bitCount_17 : decode prog_9_method_49_code 17 = .ok (.iushr, 1) := by decide +kernel
theorem d_It_bitCount_18 : decode prog_9_method_49_code 18 = .ok (.ldc_w 266, 3) := by decide +kernel
theorem d_It_bitCount_21 : decode prog_9_method_49_code 21 = .ok (.iand, 1) := by decide +kernel
theorem d_It_bitCount_22 : decode prog_9_method_49_code 22 = .ok (.iadd, 1) := by decide +kernel
theorem d_It_bitCount_23 : decode prog_9_method_49_code 23 = .ok (.istore_n 0, 1) := by decide +kernel
theorem d_It_bitCount_24 : decode prog_9_method_49_code 24 = .ok (.iload_n 0, 1) := by decide +kernel
theorem d_It_bitCount_25 : decode prog_9_method_49_code 25 = .ok (.iload_n 0, 1) := by decide +kernel
theorem d_It_bitCount_26 : decode prog_9_method_49_code 26 = .ok (.iconst 4, 1) := by decide +kernel
theorem d_It_bitCount_27 : decode prog_9_method_49_code 27 = .ok (.iushr, 1) := by decide +kernel
theorem d_It_bitCount_28 : decode prog_9_method_49_code 28 = .ok (.iadd, 1) := by decide +kernel
theorem d_It_bitCount_29 : decode prog_9_method_49_code 29 = .ok (.ldc_w 267, 3) := by decide +kernel
theorem d_It_bitCount_32 : decode prog_9_method_49_code 32 = .ok (.iand, 1) := by decide +kernel
theorem d_It_bitCount_33 : decode prog_9_method_49_code 33 = .ok (.istore_n 0, 1) := by decide +kernel
theorem d_It_bitCount_34 : decode prog_9_method_49_code 34 = .ok (.iload_n 0, 1) := by decide +kernel
theorem d_It_bitCount_35 : decode prog_9_method_49_code 35 = .ok (.iload_n 0, 1) := by decide +kernel
theorem d_It_bitCount_36 : decode prog_9_method_49_code 36 = .ok (.bipush 8, 2) := by decide +kernel
theorem d_It_bitCount_38 : decode prog_9_method_49_code 38 = .ok (.iushr, 1) := by decide +kernel
theorem d_It_bitCount_39 : decode prog_9_method_49_code 39 = .ok (.iadd, 1) := by decide +kernel
theorem d_It_bitCount_40 : decode prog_9_method_49_code 40 = .ok (.istore_n 0, 1) := by decide +kernel
theorem d_It_bitCount_41 : decode prog_9_method_49_code 41 = .ok (.iload_n 0, 1) := by decide +kernel
theorem d_It_bitCount_42 : decode prog_9_method_49_code 42 = .ok (.iload_n 0, 1) := by decide +kernel
theorem d_It_bitCount_43 : decode prog_9_method_49_code 43 = .ok (.bipush 16, 2) := by decide +kernel
theorem d_It_bitCount_45 : decode prog_9_method_49_code 45 = .ok (.iushr, 1) := by decide +kernel
theorem d_It_bitCount_46 : decode prog_9_method_49_code 46 = .ok (.iadd, 1) := by decide +kernel
theorem d_It_bitCount_47 : decode prog_9_method_49_code 47 = .ok (.istore_n 0, 1) := by decide +kernel
theorem d_It_bitCount_48 : decode prog_9_method_49_code 48 = .ok (.iload_n 0, 1) := by decide +kernel
theorem d_It_bitCount_49 : decode prog_9_method_49_code 49 = .ok (.bipush 63, 2) := by decide +kernel
theorem d_It_bitCount_51 : decode prog_9_method_49_code 51 = .ok (.iand, 1) := by decide +kernel
theorem d_It_bitCount_52 : decode prog_9_method_49_code 52 = .ok (.ireturn, 1) := by decide +kernel
set_option maxRecDepth 20000 in
set_option maxHeartbeats 4000000 in
theorem cI_bitCount (E : fk_E) (v : Nat) (hv : v < 128) : fk_C E fy_It_bitCount prog_9_method_49_code 1 (some .int) 0 0 0 [.int (nI v)] [] (S := Unit) (fun _ => some (.int (nI (fs_bc v 7)))) (fun _ => True) (fun _ => []) := by
  refine fk_enterI (v := fun _ => (nI (fs_bc v 7))) (by decide) (Nat.le_of_ble_eq_true rfl) (lv0 := [(0, .int (nI v))]) rfl ?_
  intro K hini hret
  refine fk_iload_n 0 d_It_bitCount_0 rfl ?_
  refine fk_iload_n 0 d_It_bitCount_1 rfl ?_
  refine fk_iconst (v := nI 1) d_It_bitCount_2 (by decide +kernel) ?_
  refine fk_iushr d_It_bitCount_3 (fn_iushr (a := v) (k := 1) (by omega) (by decide)) ?_
  refine fk_ldcw (v := (1431655765 : Int32)) d_It_bitCount_4 fw_455 ?_
  refine fk_top (show (1431655765 : Int32) = nI 1431655765 by decide +kernel) ?_
  refine fk_iand (a := (v / 2 ^ 1)) (b := 1431655765) d_It_bitCount_7 ?_
  refine fk_isub (a := v) (b := ((v / 2 ^ 1) &&& 1431655765)) d_It_bitCount_8 ((fs_b_le v hv).1) ?_
  refine fk_top (show (nI (v - ((v / 2 ^ 1) &&& 1431655765))) = (nI (fs_b1 v)) from rfl) ?_
  refine fk_istore_n (lv' := [(0, .int (nI (fs_b1 v)))]) d_It_bitCount_9 rfl (Nat.le_of_ble_eq_true rfl) [0] rfl ?_
  refine fk_iload_n 0 d_It_bitCount_10 rfl ?_
  refine fk_ldcw (v := (858993459 : Int32)) d_It_bitCount_11 fw_456 ?_
  refine fk_top (show (858993459 : Int32) = nI 858993459 by decide +kernel) ?_
  refine fk_iand (a := (fs_b1 v)) (b := 858993459) d_It_bitCount_14 ?_
  refine fk_iload_n 0 d_It_bitCount_15 rfl ?_
  refine fk_iconst (v := nI 2) d_It_bitCount_16 (by decide +kernel) ?_
  refine fk_iushr d_It_bitCount_17 (fn_iushr (a := (fs_b1 v)) (k := 2) (by have := (fs_b_le v hv).2.1; omega) (by decide)) ?_
  refine fk_ldcw (v := (858993459 : Int32)) d_It_bitCount_18 fw_456 ?_
  refine fk_top (show (858993459 : Int32) = nI 858993459 by decide +kernel) ?_
  refine fk_iand (a := ((fs_b1 v) / 2 ^ 2)) (b := 858993459) d_It_bitCount_21 ?_
  refine fk_iadd (a := ((fs_b1 v) &&& 858993459)) (b := (((fs_b1 v) / 2 ^ 2) &&& 858993459)) d_It_bitCount_22 ?_
  refine fk_top (show (nI (((fs_b1 v) &&& 858993459) + (((fs_b1 v) / 2 ^ 2) &&& 858993459))) = (nI (fs_b2 (fs_b1 v))) from rfl) ?_
  refine fk_istore_n (lv' := [(0, .int (nI (fs_b2 (fs_b1 v))))]) d_It_bitCount_23 rfl (Nat.le_of_ble_eq_true rfl) [0] rfl ?_
  refine fk_iload_n 0 d_It_bitCount_24 rfl ?_
  refine fk_iload_n 0 d_It_bitCount_25 rfl ?_
  refine fk_iconst (v := nI 4) d_It_bitCount_26 (by decide +kernel) ?_
  refine fk_iushr d_It_bitCount_27 (fn_iushr (a := (fs_b2 (fs_b1 v))) (k := 4) (by have := (fs_b_le v hv).2.2.1; omega) (by decide)) ?_
  refine fk_iadd (a := (fs_b2 (fs_b1 v))) (b := ((fs_b2 (fs_b1 v)) / 2 ^ 4)) d_It_bitCount_28 ?_
  refine fk_ldcw (v := (252645135 : Int32)) d_It_bitCount_29 fw_457 ?_
  refine fk_top (show (252645135 : Int32) = nI 252645135 by decide +kernel) ?_
  refine fk_iand (a := ((fs_b2 (fs_b1 v)) + ((fs_b2 (fs_b1 v)) / 2 ^ 4))) (b := 252645135) d_It_bitCount_32 ?_
  refine fk_top (show (nI (((fs_b2 (fs_b1 v)) + ((fs_b2 (fs_b1 v)) / 2 ^ 4)) &&& 252645135)) = (nI (fs_b3 (fs_b2 (fs_b1 v)))) from rfl) ?_
  refine fk_istore_n (lv' := [(0, .int (nI (fs_b3 (fs_b2 (fs_b1 v)))))]) d_It_bitCount_33 rfl (Nat.le_of_ble_eq_true rfl) [0] rfl ?_
  refine fk_iload_n 0 d_It_bitCount_34 rfl ?_
  refine fk_iload_n 0 d_It_bitCount_35 rfl ?_
  refine fk_bipush (v := nI 8) d_It_bitCount_36 (by decide +kernel) ?_
  refine fk_iushr d_It_bitCount_38 (fn_iushr (a := (fs_b3 (fs_b2 (fs_b1 v)))) (k := 8) (by have := (fs_b_le v hv).2.2.2.1; omega) (by decide)) ?_
  refine fk_iadd (a := (fs_b3 (fs_b2 (fs_b1 v)))) (b := ((fs_b3 (fs_b2 (fs_b1 v))) / 2 ^ 8)) d_It_bitCount_39 ?_
  refine fk_top (show (nI ((fs_b3 (fs_b2 (fs_b1 v))) + ((fs_b3 (fs_b2 (fs_b1 v))) / 2 ^ 8))) = (nI (fs_b4 (fs_b3 (fs_b2 (fs_b1 v))))) from rfl) ?_
  refine fk_istore_n (lv' := [(0, .int (nI (fs_b4 (fs_b3 (fs_b2 (fs_b1 v))))))]) d_It_bitCount_40 rfl (Nat.le_of_ble_eq_true rfl) [0] rfl ?_
  refine fk_iload_n 0 d_It_bitCount_41 rfl ?_
  refine fk_iload_n 0 d_It_bitCount_42 rfl ?_
  refine fk_bipush (v := nI 16) d_It_bitCount_43 (by decide +kernel) ?_
  refine fk_iushr d_It_bitCount_45 (fn_iushr (a := (fs_b4 (fs_b3 (fs_b2 (fs_b1 v))))) (k := 16) (by have := (fs_b_le v hv).2.2.2.2; omega) (by decide)) ?_
  refine fk_iadd (a := (fs_b4 (fs_b3 (fs_b2 (fs_b1 v))))) (b := ((fs_b4 (fs_b3 (fs_b2 (fs_b1 v)))) / 2 ^ 16)) d_It_bitCount_46 ?_
  refine fk_top (show (nI ((fs_b4 (fs_b3 (fs_b2 (fs_b1 v)))) + ((fs_b4 (fs_b3 (fs_b2 (fs_b1 v)))) / 2 ^ 16))) = (nI (fs_b5 (fs_b4 (fs_b3 (fs_b2 (fs_b1 v)))))) from rfl) ?_
  refine fk_istore_n (lv' := [(0, .int (nI (fs_b5 (fs_b4 (fs_b3 (fs_b2 (fs_b1 v)))))))]) d_It_bitCount_47 rfl (Nat.le_of_ble_eq_true rfl) [0] rfl ?_
  refine fk_iload_n 0 d_It_bitCount_48 rfl ?_
  refine fk_bipush (v := nI 63) d_It_bitCount_49 (by decide +kernel) ?_
  refine fk_iand (a := (fs_b5 (fs_b4 (fs_b3 (fs_b2 (fs_b1 v)))))) (b := 63) d_It_bitCount_51 ?_
  refine fk_top (congrArg nI (show (fs_b5 (fs_b4 (fs_b3 (fs_b2 (fs_b1 v))))) &&& 63 = fs_bc v 7 from fs_bc_eq v hv)) ?_
  exact hret (0, 0) _ 52 _ () d_It_bitCount_52 (trivial) (rfl)
theorem d_Nt_hasSelfLoop_0 : decode prog_4_method_17_code 0 = .ok (.iconst 0, 1) := by decide +kernel
theorem d_Nt_hasSelfLoop_1 : decode prog_4_method_17_code 1 = .ok (.istore_n 1, 1) := by decide +kernel
theorem d_Nt_hasSelfLoop_2 : decode prog_4_method_17_code 2 = .ok (.iload_n 1, 1) := by decide +kernel
theorem d_Nt_hasSelfLoop_3 : decode prog_4_method_17_code 3 = .ok (.aload_n 0, 1) := by decide +kernel
theorem d_Nt_hasSelfLoop_4 : decode prog_4_method_17_code 4 = .ok (.getfield 25, 3) := by decide +kernel
theorem d_Nt_hasSelfLoop_7 : decode prog_4_method_17_code 7 = .ok (.if_icmp .ge 27, 3) := by decide +kernel
theorem d_Nt_hasSelfLoop_10 : decode prog_4_method_17_code 10 = .ok (.aload_n 0, 1) := by decide +kernel
theorem d_Nt_hasSelfLoop_11 : decode prog_4_method_17_code 11 = .ok (.getfield 9, 3) := by decide +kernel
theorem d_Nt_hasSelfLoop_14 : decode prog_4_method_17_code 14 = .ok (.iload_n 1, 1) := by decide +kernel
theorem d_Nt_hasSelfLoop_15 : decode prog_4_method_17_code 15 = .ok (.iaload, 1) := by decide +kernel
theorem d_Nt_hasSelfLoop_16 : decode prog_4_method_17_code 16 = .ok (.aload_n 0, 1) := by decide +kernel
theorem d_Nt_hasSelfLoop_17 : decode prog_4_method_17_code 17 = .ok (.getfield 15, 3) := by decide +kernel
theorem d_Nt_hasSelfLoop_20 : decode prog_4_method_17_code 20 = .ok (.iload_n 1, 1) := by decide +kernel
theorem d_Nt_hasSelfLoop_21 : decode prog_4_method_17_code 21 = .ok (.iaload, 1) := by decide +kernel
theorem d_Nt_hasSelfLoop_22 : decode prog_4_method_17_code 22 = .ok (.iand, 1) := by decide +kernel
theorem d_Nt_hasSelfLoop_23 : decode prog_4_method_17_code 23 = .ok (.ifCond .eq 5, 3) := by decide +kernel
theorem d_Nt_hasSelfLoop_26 : decode prog_4_method_17_code 26 = .ok (.iconst 1, 1) := by decide +kernel
theorem d_Nt_hasSelfLoop_27 : decode prog_4_method_17_code 27 = .ok (.ireturn, 1) := by decide +kernel
theorem d_Nt_hasSelfLoop_28 : decode prog_4_method_17_code 28 = .ok (.iinc 1 1, 3) := by decide +kernel
theorem d_Nt_hasSelfLoop_31 : decode prog_4_method_17_code 31 = .ok (.goto (-29), 3) := by decide +kernel
theorem d_Nt_hasSelfLoop_34 : decode prog_4_method_17_code 34 = .ok (.iconst 0, 1) := by decide +kernel
theorem d_Nt_hasSelfLoop_35 : decode prog_4_method_17_code 35 = .ok (.ireturn, 1) := by decide +kernel
set_option maxRecDepth 20000 in
set_option maxHeartbeats 4000000 in
theorem cN_hasSelfLoop (E : fk_E) (n0 : Nat) (n1 : Nat) (n2 : Nat) (n3 : Nat) (n4 : Nat) (cnt : Nat) (fi : Nat) (la : Nat) (lo : Nat) (me : Nat) (ins : Nat → Nat) (outs : Nat → Nat) (hc : cnt ≤ 14) (hb : ∀ j, j < cnt → ins j < 128 ∧ outs j < 128) : fk_C E fy_Nt_hasSelfLoop prog_4_method_17_code 2 (some .boolean) 0 0 0 [.ref n0] [(n0, .inr (2, [.ref n1, .ref n2, .ref n3, .ref n4, .int (nI cnt), .int (nI fi), .int (nI la), .int (nI lo), .int (nI me)])), fk_ai E n1 14 ins, fk_ai E n2 14 outs] (S := Unit) (fun _ => some (.int (nI (Bool.toNat (fs_any (fun z9 => decide (ins z9 &&& outs z9 ≠ 0)) cnt))))) (fun _ => True) (fun _ => [(n0, .inr (2, [.ref n1, .ref n2, .ref n3, .ref n4, .int (nI cnt), .int (nI fi), .int (nI la), .int (nI lo), .int (nI me)])), fk_ai E n1 14 ins, fk_ai E n2 14 outs]) := by
  refine fk_enterZ (v := fun _ => fs_any (fun z9 => decide (ins z9 &&& outs z9 ≠ 0)) cnt) (by decide) (Nat.le_of_ble_eq_true rfl) (lv0 := [(0, .ref n0)]) rfl ?_
  intro K hini hret
  refine fk_iconst (v := nI 0) d_Nt_hasSelfLoop_0 (by decide +kernel) ?_
  refine fk_istore_n (lv' := [(0, .ref n0), (1, .int (nI 0))]) d_Nt_hasSelfLoop_1 rfl (Nat.le_of_ble_eq_true rfl) [1, 0] rfl ?_
  have L2 : ∀ (fuel : Nat) (k : Nat), (k ≤ cnt) → (∀ j, j < k → decide (ins j &&& outs j ≠ 0) = false) → cnt - k < fuel → fk_V E (prog_4_method_17_code, fy_Nt_hasSelfLoop.cls, 2, fk_rm 0 0 0) K (0, 0) [(n0, .inr (2, [.ref n1, .ref n2, .ref n3, .ref n4, .int (nI cnt), .int (nI fi), .int (nI la), .int (nI lo), .int (nI me)])), fk_ai E n1 14 ins, fk_ai E n2 14 outs] 2 [(0, .ref n0), (1, .int (nI k))] [] := by
    intro fuel
    induction fuel with
    | zero => intro k _ _ hm; exact absurd hm (Nat.not_lt_zero _)
    | succ fuel ih =>
      intro k h1 h2 hm2
      have ih2 := ih
      clear ih
      refine fk_iload_n 1 d_Nt_hasSelfLoop_2 rfl ?_
      refine fk_aload_n 0 d_Nt_hasSelfLoop_3 rfl ?_
      refine fk_get 0 4 rfl rfl fh_Nt (Nat.le_of_ble_eq_true rfl) fw_48 rfl d_Nt_hasSelfLoop_4 ?_
      refine fk_icmp_ge (a := k) (b := cnt) (by omega) (by omega) d_Nt_hasSelfLoop_7 rfl (fun h7t => ?_) (fun h7f => ?_)
      · refine fk_iconst (v := nI 0) d_Nt_hasSelfLoop_34 (by decide +kernel) ?_
        refine fk_top (fn_rf (b := fs_any (fun z9 => decide (ins z9 &&& outs z9 ≠ 0)) cnt) (fs_any_f.mpr (fun j hj => h2 j (by omega)))) ?_
        exact hret (0, 0) _ 35 _ () d_Nt_hasSelfLoop_35 (trivial) (rfl)
      · refine fk_aload_n 0 d_Nt_hasSelfLoop_10 rfl ?_
        refine fk_get 0 0 rfl rfl fh_Nt (Nat.le_of_ble_eq_true rfl) fw_44 rfl d_Nt_hasSelfLoop_11 ?_
        refine fk_iload_n 1 d_Nt_hasSelfLoop_14 rfl ?_
        refine fk_ld_ai (i := k) 1 rfl (by omega) (by decide) d_Nt_hasSelfLoop_15 ?_
        refine fk_aload_n 0 d_Nt_hasSelfLoop_16 rfl ?_
        refine fk_get 0 1 rfl rfl fh_Nt (Nat.le_of_ble_eq_true rfl) fw_45 rfl d_Nt_hasSelfLoop_17 ?_
        refine fk_iload_n 1 d_Nt_hasSelfLoop_20 rfl ?_
        refine fk_ld_ai (i := k) 2 rfl (by omega) (by decide) d_Nt_hasSelfLoop_21 ?_
        refine fk_iand (a := (ins k)) (b := (outs k)) d_Nt_hasSelfLoop_22 ?_
        refine fk_if_eq (a := ((ins k) &&& (outs k))) (by have := fb_and_lt (a := ins k) (hb k h7f).2; omega) d_Nt_hasSelfLoop_23 rfl (fun h23t => ?_) (fun h23f => ?_)
        · refine fk_iinc (j := 1) (lv' := [(0, .ref n0), (1, .int (nI (k + 1)))]) (k + 1) d_Nt_hasSelfLoop_28 rfl (nI_1 k) (Nat.le_of_ble_eq_true rfl) [1, 0] rfl ?_
          refine fk_goto d_Nt_hasSelfLoop_31 rfl ?_
          refine ih2 _ ?_ ?_ ?_
          · first | omega | assumption | exact Nat.zero_le _
          · exact fs_lt_s (f := fun j => decide (ins j &&& outs j ≠ 0)) h2 (by simp [h23t])
          · omega
        · refine fk_iconst (v := nI 1) d_Nt_hasSelfLoop_26 (by decide +kernel) ?_
          refine fk_top (fn_rt (b := fs_any (fun z9 => decide (ins z9 &&& outs z9 ≠ 0)) cnt) (fs_any_t h7f (by simp [h23f]))) ?_
          exact hret (0, 0) _ 27 _ () d_Nt_hasSelfLoop_27 (trivial) (rfl)
  refine L2 _ _ ?_ ?_ (Nat.lt_succ_self _)
  · first | omega | assumption | exact Nat.zero_le _
  · exact fs_lt_0
theorem d_Nt_hasShortLoop_0 : decode prog_4_method_18_code 0 = .ok (.iconst 0, 1) := by decide +kernel
theorem d_Nt_hasShortLoop_1 : decode prog_4_method_18_code 1 = .ok (.istore_n 1, 1) := by decide +kernel
theorem d_Nt_hasShortLoop_2 : decode prog_4_method_18_code 2 = .ok (.iload_n 1, 1) := by decide +kernel
theorem d_Nt_hasShortLoop_3 : decode prog_4_method_18_code 3 = .ok (.aload_n 0, 1) := by decide +kernel
theorem d_Nt_hasShortLoop_4 : decode prog_4_method_18_code 4 = .ok (.getfield 25, 3) := by decide +kernel
theorem d_Nt_hasShortLoop_7 : decode prog_4_method_18_code 7 = .ok (.if_icmp .ge 76, 3) := by decide +kernel
theorem d_Nt_hasShortLoop_10 : decode prog_4_method_18_code 10 = .ok (.iconst 0, 1) := by decide +kernel
theorem d_Nt_hasShortLoop_11 : decode prog_4_method_18_code 11 = .ok (.istore_n 2, 1) := by decide +kernel
theorem d_Nt_hasShortLoop_12 : decode prog_4_method_18_code 12 = .ok (.iload_n 2, 1) := by decide +kernel
theorem d_Nt_hasShortLoop_13 : decode prog_4_method_18_code 13 = .ok (.aload_n 0, 1) := by decide +kernel
theorem d_Nt_hasShortLoop_14 : decode prog_4_method_18_code 14 = .ok (.getfield 25, 3) := by decide +kernel
theorem d_Nt_hasShortLoop_17 : decode prog_4_method_18_code 17 = .ok (.if_icmp .ge 60, 3) := by decide +kernel
theorem d_Nt_hasShortLoop_20 : decode prog_4_method_18_code 20 = .ok (.aload_n 0, 1) := by decide +kernel
theorem d_Nt_hasShortLoop_21 : decode prog_4_method_18_code 21 = .ok (.getfield 15, 3) := by decide +kernel
theorem d_Nt_hasShortLoop_24 : decode prog_4_method_18_code 24 = .ok (.iload_n 1, 1) := by decide +kernel
theorem d_Nt_hasShortLoop_25 : decode prog_4_method_18_code 25 = .ok (.iaload, 1) := by decide +kernel
theorem d_Nt_hasShortLoop_26 : decode prog_4_method_18_code 26 = .ok (.aload_n 0, 1) := by decide +kernel
theorem d_Nt_hasShortLoop_27 : decode prog_4_method_18_code 27 = .ok (.getfield 9, 3) := by decide +kernel
theorem d_Nt_hasShortLoop_30 : decode prog_4_method_18_code 30 = .ok (.iload_n 2, 1) := by decide +kernel
theorem d_Nt_hasShortLoop_31 : decode prog_4_method_18_code 31 = .ok (.iaload, 1) := by decide +kernel
theorem d_Nt_hasShortLoop_32 : decode prog_4_method_18_code 32 = .ok (.iand, 1) := by decide +kernel
theorem d_Nt_hasShortLoop_33 : decode prog_4_method_18_code 33 = .ok (.istore_n 3, 1) := by decide +kernel
theorem d_Nt_hasShortLoop_34 : decode prog_4_method_18_code 34 = .ok (.aload_n 0, 1) := by decide +kernel
theorem d_Nt_hasShortLoop_35 : decode prog_4_method_18_code 35 = .ok (.getfield 15, 3) := by decide +kernel
theorem d_Nt_hasShortLoop_38 : decode prog_4_method_18_code 38 = .ok (.iload_n 2, 1) := by decide +kernel
theorem d_Nt_hasShortLoop_39 : decode prog_4_method_18_code 39 = .ok (.iaload, 1) := by decide +kernel
theorem d_Nt_hasShortLoop_40 : decode prog_4_method_18_code 40 = .ok (.aload_n 0, 1) := by decide +kernel
theorem d_Nt_hasShortLoop_41 : decode prog_4_method_18_code 41 = .ok (.getfield 9, 3) := by decide +kernel
theorem d_Nt_hasShortLoop_44 : decode prog_4_method_18_code 44 = .ok (.iload_n 1, 1) := by decide +kernel
theorem d_Nt_hasShortLoop_45 : decode prog_4_method_18_code 45 = .ok (.iaload, 1) := by decide +kernel
theorem d_Nt_hasShortLoop_46 : decode prog_4_method_18_code 46 = .ok (.iand, 1) := by decide +kernel
theorem d_Nt_hasShortLoop_47 : decode prog_4_method_18_code 47 = .ok (.istore 4, 2) := by decide +kernel
theorem d_Nt_hasShortLoop_49 : decode prog_4_method_18_code 49 = .ok (.iload_n 3, 1) := by decide +kernel
theorem d_Nt_hasShortLoop_50 : decode prog_4_method_18_code 50 = .ok (.ifCond .eq 21, 3) := by decide +kernel
theorem d_Nt_hasShortLoop_53 : decode prog_4_method_18_code 53 = .ok (.iload 4, 2) := by decide +kernel
theorem d_Nt_hasShortLoop_55 : decode prog_4_method_18_code 55 = .ok (.ifCond .eq 16, 3) := by decide +kernel
theorem d_Nt_hasShortLoop_58 : decode prog_4_method_18_code 58 = .ok (.iload_n 3, 1) := by decide +kernel
theorem d_Nt_hasShortLoop_59 : decode prog_4_method_18_code 59 = .ok (.iload 4, 2) := by decide +kernel
theorem d_Nt_hasShortLoop_61 : decode prog_4_method_18_code 61 = .ok (.ior, 1) := by decide +kernel
theorem d_Nt_hasShortLoop_62 : decode prog_4_method_18_code 62 = .ok (.invokestatic 68, 3) := by decide +kernel
theorem d_Nt_hasShortLoop_65 : decode prog_4_method_18_code 65 = .ok (.iconst 2, 1) := by decide +kernel
theorem d_Nt_hasShortLoop_66 : decode prog_4_method_18_code 66 = .ok (.if_icmp .lt 5, 3) := by decide +kernel
theorem d_Nt_hasShortLoop_69 : decode prog_4_method_18_code 69 = .ok (.iconst 1, 1) := by decide +kernel
theorem d_Nt_hasShortLoop_70 : decode prog_4_method_18_code 70 = .ok (.ireturn, 1) := by decide +kernel
theorem d_Nt_hasShortLoop_71 : decode prog_4_method_18_code 71 = .ok (.iinc 2 1, 3) := by decide +kernel
theorem d_Nt_hasShortLoop_74 : decode prog_4_method_18_code 74 = .ok (.goto (-62), 3) := by decide +kernel
theorem d_Nt_hasShortLoop_77 : decode prog_4_method_18_code 77 = .ok (.iinc 1 1, 3) := by decide +kernel
theorem d_Nt_hasShortLoop_80 : decode prog_4_method_18_code 80 = .ok (.goto (-78), 3) := by decide +kernel
theorem d_Nt_hasShortLoop_83 : decode prog_4_method_18_code 83 = .ok (.iconst 0, 1) := by decide +kernel
theorem d_Nt_hasShortLoop_84 : decode prog_4_method_18_code 84 = .ok (.ireturn, 1) := by decide +kernel
set_option maxRecDepth 20000 in
set_option maxHeartbeats 4000000 in
theorem cN_hasShortLoop (E : fk_E) (n0 : Nat) (n1 : Nat) (n2 : Nat) (n3 : Nat) (n4 : Nat) (cnt : Nat) (fi : Nat) (la : Nat) (lo : Nat) (me : Nat) (ins : Nat → Nat) (outs : Nat → Nat) (hc : cnt ≤ 14) (hb : ∀ j, j < cnt → ins j < 128 ∧ outs j < 128) : fk_C E fy_Nt_hasShortLoop prog_4_method_18_code 5 (some .boolean) 1 0 0 [.ref n0] [(n0, .inr (2, [.ref n1, .ref n2, .ref n3, .ref n4, .int (nI cnt), .int (nI fi), .int (nI la), .int (nI lo), .int (nI me)])), fk_ai E n1 14 ins, fk_ai E n2 14 outs] (S := Unit) (fun _ => some (.int (nI (Bool.toNat (fs_any (fun z9 => fs_any (fs_sh ins outs z9) cnt) cnt))))) (fun _ => True) (fun _ => [(n0, .inr (2, [.ref n1, .ref n2, .ref n3, .ref n4, .int (nI cnt), .int (nI fi), .int (nI la), .int (nI lo), .int (nI me)])), fk_ai E n1 14 ins, fk_ai E n2 14 outs]) := by
  refine fk_enterZ (v := fun _ => fs_any (fun z9 => fs_any (fs_sh ins outs z9) cnt) cnt) (by decide) (Nat.le_of_ble_eq_true rfl) (lv0 := [(0, .ref n0)]) rfl ?_
  intro K hini hret
  refine fk_iconst (v := nI 0) d_Nt_hasShortLoop_0 (by decide +kernel) ?_
  refine fk_istore_n (lv' := [(0, .ref n0), (1, .int (nI 0))]) d_Nt_hasShortLoop_1 rfl (Nat.le_of_ble_eq_true rfl) [1, 0] rfl ?_
  have L2 : ∀ (fuel : Nat) (p : Nat), (p ≤ cnt) → (∀ j, j < p → fs_any (fs_sh ins outs j) cnt = false) → cnt - p < fuel → fk_V E (prog_4_method_18_code, fy_Nt_hasShortLoop.cls, 5, fk_rm 1 0 0) K (0, 0) [(n0, .inr (2, [.ref n1, .ref n2, .ref n3, .ref n4, .int (nI cnt), .int (nI fi), .int (nI la), .int (nI lo), .int (nI me)])), fk_ai E n1 14 ins, fk_ai E n2 14 outs] 2 [(0, .ref n0), (1, .int (nI p))] [] := by
    intro fuel
    induction fuel with
    | zero => intro p _ _ hm; exact absurd hm (Nat.not_lt_zero _)
    | succ fuel ih =>
      intro p h1 h2 hm2
      have ih2 := ih
      clear ih
      refine fk_iload_n 1 d_Nt_hasShortLoop_2 rfl ?_
      refine fk_aload_n 0 d_Nt_hasShortLoop_3 rfl ?_
      refine fk_get 0 4 rfl rfl fh_Nt (Nat.le_of_ble_eq_true rfl) fw_48 rfl d_Nt_hasShortLoop_4 ?_
      refine fk_icmp_ge (a := p) (b := cnt) (by omega) (by omega) d_Nt_hasShortLoop_7 rfl (fun h7t => ?_) (fun h7f => ?_)
      · refine fk_iconst (v := nI 0) d_Nt_hasShortLoop_83 (by decide +kernel) ?_
        refine fk_top (fn_rf (b := fs_any (fun z9 => fs_any (fs_sh ins outs z9) cnt) cnt) (fs_any_f.mpr (fun j hj => h2 j (by omega)))) ?_
        exact hret (0, 0) _ 84 _ () d_Nt_hasShortLoop_84 (trivial) (rfl)
      · refine fk_iconst (v := nI 0) d_Nt_hasShortLoop_10 (by decide +kernel) ?_
        refine fk_istore_n (lv' := [(0, .ref n0), (1, .int (nI p)), (2, .int (nI 0))]) d_Nt_hasShortLoop_11 rfl (Nat.le_of_ble_eq_true rfl) [1, 2, 0] rfl ?_
        have L12 : ∀ (fuel : Nat) (q : Nat), (q ≤ cnt) → (∀ j, j < q → fs_sh ins outs p j = false) → cnt - q < fuel → fk_V E (prog_4_method_18_code, fy_Nt_hasShortLoop.cls, 5, fk_rm 1 0 0) K (0, 0) [(n0, .inr (2, [.ref n1, .ref n2, .ref n3, .ref n4, .int (nI cnt), .int (nI fi), .int (nI la), .int (nI lo), .int (nI me)])), fk_ai E n1 14 ins, fk_ai E n2 14 outs] 12 [(0, .ref n0), (1, .int (nI p)), (2, .int (nI q))] [] := by
          intro fuel
          induction fuel with
          | zero => intro q _ _ hm; exact absurd hm (Nat.not_lt_zero _)
          | succ fuel ih =>
            intro q h3 h4 hm12
            have ih12 := ih
            clear ih
            refine fk_iload_n 2 d_Nt_hasShortLoop_12 rfl ?_
            refine fk_aload_n 0 d_Nt_hasShortLoop_13 rfl ?_
            refine fk_get 0 4 rfl rfl fh_Nt (Nat.le_of_ble_eq_true rfl) fw_48 rfl d_Nt_hasShortLoop_14 ?_
            refine fk_icmp_ge (a := q) (b := cnt) (by omega) (by omega) d_Nt_hasShortLoop_17 rfl (fun h17t => ?_) (fun h17f => ?_)
            · refine fk_iinc (j := 1) (lv' := [(0, .ref n0), (1, .int (nI (p + 1))), (2, .int (nI q))]) (p + 1) d_Nt_hasShortLoop_77 rfl (nI_1 p) (Nat.le_of_ble_eq_true rfl) [1, 0, 2] rfl ?_
              refine fk_goto d_Nt_hasShortLoop_80 rfl ?_
              refine fk_lv (lv' := [(0, .ref n0), (1, .int (nI (p + 1)))]) [0, 1] rfl ?_
              refine ih2 _ ?_ ?_ ?_
              · first | omega | assumption | exact Nat.zero_le _
              · exact fs_lt_s (f := fun j => fs_any (fs_sh ins outs j) cnt) h2 (fs_any_f.mpr (fun j hj => h4 j (by omega)))
              · omega
            · have hp := hb p (by omega)
              have hq := hb q (by omega)
              have g1 : outs p &&& ins q < 128 := fb_and_lt hq.1
              have g2 : outs q &&& ins p < 128 := fb_and_lt hp.1
              refine fk_aload_n 0 d_Nt_hasShortLoop_20 rfl ?_
              refine fk_get 0 1 rfl rfl fh_Nt (Nat.le_of_ble_eq_true rfl) fw_45 rfl d_Nt_hasShortLoop_21 ?_
              refine fk_iload_n 1 d_Nt_hasShortLoop_24 rfl ?_
              refine fk_ld_ai (i := p) 2 rfl (by omega) (by decide) d_Nt_hasShortLoop_25 ?_
              refine fk_aload_n 0 d_Nt_hasShortLoop_26 rfl ?_
              refine fk_get 0 0 rfl rfl fh_Nt (Nat.le_of_ble_eq_true rfl) fw_44 rfl d_Nt_hasShortLoop_27 ?_
              refine fk_iload_n 2 d_Nt_hasShortLoop_30 rfl ?_
              refine fk_ld_ai (i := q) 1 rfl (by omega) (by decide) d_Nt_hasShortLoop_31 ?_
              refine fk_iand (a := (outs p)) (b := (ins q)) d_Nt_hasShortLoop_32 ?_
              refine fk_istore_n (lv' := [(0, .ref n0), (1, .int (nI p)), (2, .int (nI q)), (3, .int (nI ((outs p) &&& (ins q))))]) d_Nt_hasShortLoop_33 rfl (Nat.le_of_ble_eq_true rfl) [1, 2, 3, 0] rfl ?_
              refine fk_aload_n 0 d_Nt_hasShortLoop_34 rfl ?_
              refine fk_get 0 1 rfl rfl fh_Nt (Nat.le_of_ble_eq_true rfl) fw_45 rfl d_Nt_hasShortLoop_35 ?_
              refine fk_iload_n 2 d_Nt_hasShortLoop_38 rfl ?_
              refine fk_ld_ai (i := q) 2 rfl (by omega) (by decide) d_Nt_hasShortLoop_39 ?_
              refine fk_aload_n 0 d_Nt_hasShortLoop_40 rfl ?_
              refine fk_get 0 0 rfl rfl fh_Nt (Nat.le_of_ble_eq_true rfl) fw_44 rfl d_Nt_hasShortLoop_41 ?_
              refine fk_iload_n 1 d_Nt_hasShortLoop_44 rfl ?_
              refine fk_ld_ai (i := p) 1 rfl (by omega) (by decide) d_Nt_hasShortLoop_45 ?_
              refine fk_iand (a := (outs q)) (b := (ins p)) d_Nt_hasShortLoop_46 ?_
              refine fk_istore (lv' := [(0, .ref n0), (1, .int (nI p)), (2, .int (nI q)), (3, .int (nI ((outs p) &&& (ins q)))), (4, .int (nI ((outs q) &&& (ins p))))]) d_Nt_hasShortLoop_47 (Nat.le_of_ble_eq_true rfl) [1, 2, 3, 4, 0] rfl ?_
              refine fk_iload_n 3 d_Nt_hasShortLoop_49 rfl ?_
              refine fk_if_eq (a := ((outs p) &&& (ins q))) (by omega) d_Nt_hasShortLoop_50 rfl (fun h50t => ?_) (fun h50f => ?_)
              · refine fk_iinc (j := 2) (lv' := [(0, .ref n0), (1, .int (nI p)), (2, .int (nI (q + 1))), (3, .int (nI ((outs p) &&& (ins q)))), (4, .int (nI ((outs q) &&& (ins p))))]) (q + 1) d_Nt_hasShortLoop_71 rfl (nI_1 q) (Nat.le_of_ble_eq_true rfl) [1, 2, 0, 3, 4] rfl ?_
                refine fk_goto d_Nt_hasShortLoop_74 rfl ?_
                refine fk_lv (lv' := [(0, .ref n0), (1, .int (nI p)), (2, .int (nI (q + 1)))]) [0, 1, 2] rfl ?_
                refine ih12 _ ?_ ?_ ?_
                · first | omega | assumption | exact Nat.zero_le _
                · refine fs_lt_s h4 ?_
                  unfold fs_sh
                  first | simp [h50t] | simp [h55t] | (rw [decide_eq_false (show ¬ 2 ≤ _ by omega)]; simp)
                · omega
              · refine fk_iload 4 d_Nt_hasShortLoop_53 rfl ?_
                refine fk_if_eq (a := ((outs q) &&& (ins p))) (by omega) d_Nt_hasShortLoop_55 rfl (fun h55t => ?_) (fun h55f => ?_)
                · refine fk_iinc (j := 2) (lv' := [(0, .ref n0), (1, .int (nI p)), (2, .int (nI (q + 1))), (3, .int (nI ((outs p) &&& (ins q)))), (4, .int (nI ((outs q) &&& (ins p))))]) (q + 1) d_Nt_hasShortLoop_71 rfl (nI_1 q) (Nat.le_of_ble_eq_true rfl) [1, 2, 0, 3, 4] rfl ?_
                  refine fk_goto d_Nt_hasShortLoop_74 rfl ?_
                  refine fk_lv (lv' := [(0, .ref n0), (1, .int (nI p)), (2, .int (nI (q + 1)))]) [0, 1, 2] rfl ?_
                  refine ih12 _ ?_ ?_ ?_
                  · first | omega | assumption | exact Nat.zero_le _
                  · refine fs_lt_s h4 ?_
                    unfold fs_sh
                    first | simp [h50t] | simp [h55t] | (rw [decide_eq_false (show ¬ 2 ≤ _ by omega)]; simp)
                  · omega
                · refine fk_iload_n 3 d_Nt_hasShortLoop_58 rfl ?_
                  refine fk_iload 4 d_Nt_hasShortLoop_59 rfl ?_
                  refine fk_ior (a := ((outs p) &&& (ins q))) (b := ((outs q) &&& (ins p))) d_Nt_hasShortLoop_61 ?_
                  refine fk_callS (As := [.int (nI (((outs p) &&& (ins q)) ||| ((outs q) &&& (ins p))))]) (rest := []) (is := []) (ir := [0, 1, 2]) (ip := [0, 1, 2]) (wc := []) (wr := [(n0, .inr (2, [.ref n1, .ref n2, .ref n3, .ref n4, .int (nI cnt), .int (nI fi), .int (nI la), .int (nI lo), .int (nI me)])), fk_ai E n1 14 ins, fk_ai E n2 14 outs]) (w2 := fun _ => [(n0, .inr (2, [.ref n1, .ref n2, .ref n3, .ref n4, .int (nI cnt), .int (nI fi), .int (nI la), .int (nI lo), .int (nI me)])), fk_ai E n1 14 ins, fk_ai E n2 14 outs]) (cI_bitCount E (((outs p) &&& (ins q)) ||| ((outs q) &&& (ins p))) (fb_or_lt g1 g2)) d_Nt_hasShortLoop_62 fz_It_bitCount fw_452 fw_453 ⟨Nat.le_of_ble_eq_true rfl, Nat.le_of_ble_eq_true rfl⟩ rfl (Nat.le_of_ble_eq_true rfl) ⟨Nat.zero_le _, Nat.zero_le _⟩ ⟨rfl, rfl, rfl, rfl, by decide, fun _ => rfl, rfl⟩ (fun u hu62 => ?_)
                  show fk_V E _ K (0, 0) [(n0, .inr (2, [.ref n1, .ref n2, .ref n3, .ref n4, .int (nI cnt), .int (nI fi), .int (nI la), .int (nI lo), .int (nI me)])), fk_ai E n1 14 ins, fk_ai E n2 14 outs] 65 [(0, .ref n0), (1, .int (nI p)), (2, .int (nI q)), (3, .int (nI ((outs p) &&& (ins q)))), (4, .int (nI ((outs q) &&& (ins p))))] [.int (nI (fs_bc (((outs p) &&& (ins q)) ||| ((outs q) &&& (ins p))) 7))]
                  have g3 := fs_bc_lt _ (fb_or_lt g1 g2)
                  refine fk_iconst (v := nI 2) d_Nt_hasShortLoop_65 (by decide +kernel) ?_
                  refine fk_icmp_lt (a := (fs_bc (((outs p) &&& (ins q)) ||| ((outs q) &&& (ins p))) 7)) (b := 2) (by omega) (by omega) d_Nt_hasShortLoop_66 rfl (fun h66t => ?_) (fun h66f => ?_)
                  · refine fk_iinc (j := 2) (lv' := [(0, .ref n0), (1, .int (nI p)), (2, .int (nI (q + 1))), (3, .int (nI ((outs p) &&& (ins q)))), (4, .int (nI ((outs q) &&& (ins p))))]) (q + 1) d_Nt_hasShortLoop_71 rfl (nI_1 q) (Nat.le_of_ble_eq_true rfl) [1, 2, 0, 3, 4] rfl ?_
                    refine fk_goto d_Nt_hasShortLoop_74 rfl ?_
                    refine fk_lv (lv' := [(0, .ref n0), (1, .int (nI p)), (2, .int (nI (q + 1)))]) [0, 1, 2] rfl ?_
                    refine ih12 _ ?_ ?_ ?_
                    · first | omega | assumption | exact Nat.zero_le _
                    · refine fs_lt_s h4 ?_
                      unfold fs_sh
                      first | simp [h50t] | simp [h55t] | (rw [decide_eq_false (show ¬ 2 ≤ _ by omega)]; simp)
                    · omega
                  · refine fk_iconst (v := nI 1) d_Nt_hasShortLoop_69 (by decide +kernel) ?_
                    refine fk_top (fn_rt (b := fs_any (fun z9 => fs_any (fs_sh ins outs z9) cnt) cnt) (fs_any_t (j := p) (by omega) (fs_any_t (j := q) (by omega) (by unfold fs_sh; rw [decide_eq_true h50f, decide_eq_true h55f, decide_eq_true h66f]; rfl)))) ?_
                    exact hret (0, 0) _ 70 _ () d_Nt_hasShortLoop_70 (trivial) (rfl)
        refine L12 _ _ ?_ ?_ (Nat.lt_succ_self _)
        · first | omega | assumption | exact Nat.zero_le _
        · exact fs_lt_0
  refine L2 _ _ ?_ ?_ (Nat.lt_succ_self _)
  · first | omega | assumption | exact Nat.zero_le _
  · exact fs_lt_0
theorem d_Nt_sharesOutputs_0 : decode prog_4_method_20_code 0 = .ok (.iconst 0, 1) := by decide +kernel
theorem d_Nt_sharesOutputs_1 : decode prog_4_method_20_code 1 = .ok (.istore_n 3, 1) := by decide +kernel
theorem d_Nt_sharesOutputs_2 : decode prog_4_method_20_code 2 = .ok (.iload_n 3, 1) := by decide +kernel
theorem d_Nt_sharesOutputs_3 : decode prog_4_method_20_code 3 = .ok (.aload_n 0, 1) := by decide +kernel
theorem d_Nt_sharesOutputs_4 : decode prog_4_method_20_code 4 = .ok (.getfield 25, 3) := by decide +kernel
theorem d_Nt_sharesOutputs_7 : decode prog_4_method_20_code 7 = .ok (.if_icmp .gt 46, 3) := by decide +kernel
theorem d_Nt_sharesOutputs_10 : decode prog_4_method_20_code 10 = .ok (.iload_n 3, 1) := by decide +kernel
theorem d_Nt_sharesOutputs_11 : decode prog_4_method_20_code 11 = .ok (.aload_n 0, 1) := by decide +kernel
theorem d_Nt_sharesOutputs_12 : decode prog_4_method_20_code 12 = .ok (.getfield 25, 3) := by decide +kernel
theorem d_Nt_sharesOutputs_15 : decode prog_4_method_20_code 15 = .ok (.if_icmp .ne 10, 3) := by decide +kernel
theorem d_Nt_sharesOutputs_18 : decode prog_4_method_20_code 18 = .ok (.aload_n 0, 1) := by decide +kernel
theorem d_Nt_sharesOutputs_19 : decode prog_4_method_20_code 19 = .ok (.getfield 29, 3) := by decide +kernel
theorem d_Nt_sharesOutputs_22 : decode prog_4_method_20_code 22 = .ok (.goto 9, 3) := by decide +kernel
theorem d_Nt_sharesOutputs_25 : decode prog_4_method_20_code 25 = .ok (.aload_n 0, 1) := by decide +kernel
theorem d_Nt_sharesOutputs_26 : decode prog_4_method_20_code 26 = .ok (.getfield 15, 3) := by decide +kernel
theorem d_Nt_sharesOutputs_29 : decode prog_4_method_20_code 29 = .ok (.iload_n 3, 1) := by decide +kernel
theorem d_Nt_sharesOutputs_30 : decode prog_4_method_20_code 30 = .ok (.iaload, 1) := by decide +kernel
theorem d_Nt_sharesOutputs_31 : decode prog_4_method_20_code 31 = .ok (.istore 4, 2) := by decide +kernel
theorem d_Nt_sharesOutputs_33 : decode prog_4_method_20_code 33 = .ok (.iload_n 3, 1) := by decide +kernel
theorem d_Nt_sharesOutputs_34 : decode prog_4_method_20_code 34 = .ok (.iload_n 1, 1) := by decide +kernel
theorem d_Nt_sharesOutputs_35 : decode prog_4_method_20_code 35 = .ok (.if_icmp .eq 12, 3) := by decide +kernel
theorem d_Nt_sharesOutputs_38 : decode prog_4_method_20_code 38 = .ok (.iload_n 2, 1) := by decide +kernel
theorem d_Nt_sharesOutputs_39 : decode prog_4_method_20_code 39 = .ok (.iload 4, 2) := by decide +kernel
theorem d_Nt_sharesOutputs_41 : decode prog_4_method_20_code 41 = .ok (.iand, 1) := by decide +kernel
theorem d_Nt_sharesOutputs_42 : decode prog_4_method_20_code 42 = .ok (.ifCond .eq 5, 3) := by decide +kernel
theorem d_Nt_sharesOutputs_45 : decode prog_4_method_20_code 45 = .ok (.iconst 1, 1) := by decide +kernel
theorem d_Nt_sharesOutputs_46 : decode prog_4_method_20_code 46 = .ok (.ireturn, 1) := by decide +kernel
theorem d_Nt_sharesOutputs_47 : decode prog_4_method_20_code 47 = .ok (.iinc 3 1, 3) := by decide +kernel
theorem d_Nt_sharesOutputs_50 : decode prog_4_method_20_code 50 = .ok (.goto (-48), 3) := by decide +kernel
theorem d_Nt_sharesOutputs_53 : decode prog_4_method_20_code 53 = .ok (.iconst 0, 1) := by decide +kernel
theorem d_Nt_sharesOutputs_54 : decode prog_4_method_20_code 54 = .ok (.ireturn, 1) := by decide +kernel
set_option maxRecDepth 20000 in
set_option maxHeartbeats 4000000 in
theorem cN_sharesOutputs (E : fk_E) (n0 : Nat) (n1 : Nat) (n2 : Nat) (n3 : Nat) (n4 : Nat) (cnt : Nat) (fi : Nat) (la : Nat) (lo : Nat) (me : Nat) (outs : Nat → Nat) (p : Nat) (c : Nat) (hc : cnt ≤ 14) (hb : ∀ j, j < cnt → outs j < 128) (hf : fi < 128) (hp : p ≤ 14) (hc2 : c < 128) : fk_C E fy_Nt_sharesOutputs prog_4_method_20_code 5 (some .boolean) 0 0 0 [.ref n0, .int (nI p), .int (nI c)] [(n0, .inr (2, [.ref n1, .ref n2, .ref n3, .ref n4, .int (nI cnt), .int (nI fi), .int (nI la), .int (nI lo), .int (nI me)])), fk_ai E n2 14 outs] (S := Unit) (fun _ => some (.int (nI (Bool.toNat (fs_shr cnt outs fi p c))))) (fun _ => True) (fun _ => [(n0, .inr (2, [.ref n1, .ref n2, .ref n3, .ref n4, .int (nI cnt), .int (nI fi), .int (nI la), .int (nI lo), .int (nI me)])), fk_ai E n2 14 outs]) := by
  refine fk_enterZ (v := fun _ => fs_shr cnt outs fi p c) (by decide) (Nat.le_of_ble_eq_true rfl) (lv0 := [(0, .ref n0), (1, .int (nI p)), (2, .int (nI c))]) rfl ?_
  intro K hini hret
  refine fk_iconst (v := nI 0) d_Nt_sharesOutputs_0 (by decide +kernel) ?_
  refine fk_istore_n (lv' := [(0, .ref n0), (1, .int (nI p)), (2, .int (nI c)), (3, .int (nI 0))]) d_Nt_sharesOutputs_1 rfl (Nat.le_of_ble_eq_true rfl) [1, 2, 3, 0] rfl ?_
  have L2 : ∀ (fuel : Nat) (k : Nat), (k ≤ cnt + 1) → (∀ j, j < k → (decide (j ≠ p) && decide (c &&& fs_ch cnt outs fi j ≠ 0)) = false) → cnt + 1 - k < fuel → fk_V E (prog_4_method_20_code, fy_Nt_sharesOutputs.cls, 5, fk_rm 0 0 0) K (0, 0) [(n0, .inr (2, [.ref n1, .ref n2, .ref n3, .ref n4, .int (nI cnt), .int (nI fi), .int (nI la), .int (nI lo), .int (nI me)])), fk_ai E n2 14 outs] 2 [(0, .ref n0), (1, .int (nI p)), (2, .int (nI c)), (3, .int (nI k))] [] := by
    intro fuel
    induction fuel with
    | zero => intro k _ _ hm; exact absurd hm (Nat.not_lt_zero _)
    | succ fuel ih =>
      intro k h1 h2 hm2
      have ih2 := ih
      clear ih
      refine fk_iload_n 3 d_Nt_sharesOutputs_2 rfl ?_
      refine fk_aload_n 0 d_Nt_sharesOutputs_3 rfl ?_
      refine fk_get 0 4 rfl rfl fh_Nt (Nat.le_of_ble_eq_true rfl) fw_48 rfl d_Nt_sharesOutputs_4 ?_
      refine fk_icmp_gt (a := k) (b := cnt) (by omega) (by omega) d_Nt_sharesOutputs_7 rfl (fun h7t => ?_) (fun h7f => ?_)
      · refine fk_iconst (v := nI 0) d_Nt_sharesOutputs_53 (by decide +kernel) ?_
        refine fk_top (fn_rf (b := fs_shr cnt outs fi p c) (fs_any_f.mpr (fun j hj => h2 j (by omega)))) ?_
        exact hret (0, 0) _ 54 _ () d_Nt_sharesOutputs_54 (trivial) (rfl)
      · refine fk_iload_n 3 d_Nt_sharesOutputs_10 rfl ?_
        refine fk_aload_n 0 d_Nt_sharesOutputs_11 rfl ?_
        refine fk_get 0 4 rfl rfl fh_Nt (Nat.le_of_ble_eq_true rfl) fw_48 rfl d_Nt_sharesOutputs_12 ?_
        refine fk_icmp_ne (a := k) (b := cnt) (by omega) (by omega) d_Nt_sharesOutputs_15 rfl (fun h15t => ?_) (fun h15f => ?_)
        · refine fk_aload_n 0 d_Nt_sharesOutputs_25 rfl ?_
          refine fk_get 0 1 rfl rfl fh_Nt (Nat.le_of_ble_eq_true rfl) fw_45 rfl d_Nt_sharesOutputs_26 ?_
          refine fk_iload_n 3 d_Nt_sharesOutputs_29 rfl ?_
          refine fk_ld_ai (i := k) 1 rfl (by omega) (by decide) d_Nt_sharesOutputs_30 ?_
          refine fk_istore (lv' := [(0, .ref n0), (1, .int (nI p)), (2, .int (nI c)), (3, .int (nI k)), (4, .int (nI (outs k)))]) d_Nt_sharesOutputs_31 (Nat.le_of_ble_eq_true rfl) [1, 2, 3, 4, 0] rfl ?_
          refine fk_iload_n 3 d_Nt_sharesOutputs_33 rfl ?_
          refine fk_iload_n 1 d_Nt_sharesOutputs_34 rfl ?_
          refine fk_icmp_eq (a := k) (b := p) (by omega) (by omega) d_Nt_sharesOutputs_35 rfl (fun h35t => ?_) (fun h35f => ?_)
          · refine fk_iinc (j := 3) (lv' := [(0, .ref n0), (1, .int (nI p)), (2, .int (nI c)), (3, .int (nI (k + 1))), (4, .int (nI (outs k)))]) (k + 1) d_Nt_sharesOutputs_47 rfl (nI_1 k) (Nat.le_of_ble_eq_true rfl) [1, 2, 3, 0, 4] rfl ?_
            refine fk_goto d_Nt_sharesOutputs_50 rfl ?_
            refine fk_lv (lv' := [(0, .ref n0), (1, .int (nI p)), (2, .int (nI c)), (3, .int (nI (k + 1)))]) [0, 1, 2, 3] rfl ?_
            refine ih2 _ ?_ ?_ ?_
            · first | omega | assumption | exact Nat.zero_le _
            · refine fs_lt_s (f := fun j => decide (j ≠ p) && decide (c &&& fs_ch cnt outs fi j ≠ 0)) h2 ?_
              first | simp [h35t] | simp [fs_ch, h15t, h42t] | simp [fs_ch, h15f, h42t]
            · omega
          · refine fk_iload_n 2 d_Nt_sharesOutputs_38 rfl ?_
            refine fk_iload 4 d_Nt_sharesOutputs_39 rfl ?_
            refine fk_iand (a := c) (b := (outs k)) d_Nt_sharesOutputs_41 ?_
            refine fk_if_eq (a := (c &&& (outs k))) (by have := fb_and_lt' (a := c) (b := if k = cnt then fi else outs k) hc2; first | omega | (simp only [h15t, if_false] at this; omega) | (simp only [h15f, if_true] at this; omega)) d_Nt_sharesOutputs_42 rfl (fun h42t => ?_) (fun h42f => ?_)
            · refine fk_iinc (j := 3) (lv' := [(0, .ref n0), (1, .int (nI p)), (2, .int (nI c)), (3, .int (nI (k + 1))), (4, .int (nI (outs k)))]) (k + 1) d_Nt_sharesOutputs_47 rfl (nI_1 k) (Nat.le_of_ble_eq_true rfl) [1, 2, 3, 0, 4] rfl ?_
              refine fk_goto d_Nt_sharesOutputs_50 rfl ?_
              refine fk_lv (lv' := [(0, .ref n0), (1, .int (nI p)), (2, .int (nI c)), (3, .int (nI (k + 1)))]) [0, 1, 2, 3] rfl ?_
              refine ih2 _ ?_ ?_ ?_
              · first | omega | assumption | exact Nat.zero_le _
              · refine fs_lt_s (f := fun j => decide (j ≠ p) && decide (c &&& fs_ch cnt outs fi j ≠ 0)) h2 ?_
                first | simp [h35t] | simp [fs_ch, h15t, h42t] | simp [fs_ch, h15f, h42t]
              · omega
            · refine fk_iconst (v := nI 1) d_Nt_sharesOutputs_45 (by decide +kernel) ?_
              refine fk_top (fn_rt (b := fs_shr cnt outs fi p c) (fs_any_t (j := k) (by omega) (by simp [fs_ch, h35f, h15t, h42f]))) ?_
              exact hret (0, 0) _ 46 _ () d_Nt_sharesOutputs_46 (trivial) (rfl)
        · refine fk_aload_n 0 d_Nt_sharesOutputs_18 rfl ?_
          refine fk_get 0 5 rfl rfl fh_Nt (Nat.le_of_ble_eq_true rfl) fw_49 rfl d_Nt_sharesOutputs_19 ?_
          refine fk_goto d_Nt_sharesOutputs_22 rfl ?_
          refine fk_istore (lv' := [(0, .ref n0), (1, .int (nI p)), (2, .int (nI c)), (3, .int (nI k)), (4, .int (nI fi))]) d_Nt_sharesOutputs_31 (Nat.le_of_ble_eq_true rfl) [1, 2, 3, 4, 0] rfl ?_
          refine fk_iload_n 3 d_Nt_sharesOutputs_33 rfl ?_
          refine fk_iload_n 1 d_Nt_sharesOutputs_34 rfl ?_
          refine fk_icmp_eq (a := k) (b := p) (by omega) (by omega) d_Nt_sharesOutputs_35 rfl (fun h35t => ?_) (fun h35f => ?_)
          · refine fk_iinc (j := 3) (lv' := [(0, .ref n0), (1, .int (nI p)), (2, .int (nI c)), (3, .int (nI (k + 1))), (4, .int (nI fi))]) (k + 1) d_Nt_sharesOutputs_47 rfl (nI_1 k) (Nat.le_of_ble_eq_true rfl) [1, 2, 3, 0, 4] rfl ?_
            refine fk_goto d_Nt_sharesOutputs_50 rfl ?_
            refine fk_lv (lv' := [(0, .ref n0), (1, .int (nI p)), (2, .int (nI c)), (3, .int (nI (k + 1)))]) [0, 1, 2, 3] rfl ?_
            refine ih2 _ ?_ ?_ ?_
            · first | omega | assumption | exact Nat.zero_le _
            · refine fs_lt_s (f := fun j => decide (j ≠ p) && decide (c &&& fs_ch cnt outs fi j ≠ 0)) h2 ?_
              first | simp [h35t] | simp [fs_ch, h15t, h42t] | simp [fs_ch, h15f, h42t]
            · omega
          · refine fk_iload_n 2 d_Nt_sharesOutputs_38 rfl ?_
            refine fk_iload 4 d_Nt_sharesOutputs_39 rfl ?_
            refine fk_iand (a := c) (b := fi) d_Nt_sharesOutputs_41 ?_
            refine fk_if_eq (a := (c &&& fi)) (by have := fb_and_lt' (a := c) (b := if k = cnt then fi else outs k) hc2; first | omega | (simp only [h15t, if_false] at this; omega) | (simp only [h15f, if_true] at this; omega)) d_Nt_sharesOutputs_42 rfl (fun h42t => ?_) (fun h42f => ?_)
            · refine fk_iinc (j := 3) (lv' := [(0, .ref n0), (1, .int (nI p)), (2, .int (nI c)), (3, .int (nI (k + 1))), (4, .int (nI fi))]) (k + 1) d_Nt_sharesOutputs_47 rfl (nI_1 k) (Nat.le_of_ble_eq_true rfl) [1, 2, 3, 0, 4] rfl ?_
              refine fk_goto d_Nt_sharesOutputs_50 rfl ?_
              refine fk_lv (lv' := [(0, .ref n0), (1, .int (nI p)), (2, .int (nI c)), (3, .int (nI (k + 1)))]) [0, 1, 2, 3] rfl ?_
              refine ih2 _ ?_ ?_ ?_
              · first | omega | assumption | exact Nat.zero_le _
              · refine fs_lt_s (f := fun j => decide (j ≠ p) && decide (c &&& fs_ch cnt outs fi j ≠ 0)) h2 ?_
                first | simp [h35t] | simp [fs_ch, h15t, h42t] | simp [fs_ch, h15f, h42t]
              · omega
            · refine fk_iconst (v := nI 1) d_Nt_sharesOutputs_45 (by decide +kernel) ?_
              refine fk_top (fn_rt (b := fs_shr cnt outs fi p c) (fs_any_t (j := k) (by omega) (by simp [fs_ch, h15f, h42f]; omega))) ?_
              exact hret (0, 0) _ 46 _ () d_Nt_sharesOutputs_46 (trivial) (rfl)
  refine L2 _ _ ?_ ?_ (Nat.lt_succ_self _)
  · first | omega | assumption | exact Nat.zero_le _
  · exact fs_lt_0
theorem d_Nt_hasMixedChoice_0 : decode prog_4_method_19_code 0 = .ok (.iconst 0, 1) := by decide +kernel
theorem d_Nt_hasMixedChoice_1 : decode prog_4_method_19_code 1 = .ok (.istore_n 1, 1) := by decide +kernel
theorem d_Nt_hasMixedChoice_2 : decode prog_4_method_19_code 2 = .ok (.iload_n 1, 1) := by decide +kernel
theorem d_Nt_hasMixedChoice_3 : decode prog_4_method_19_code 3 = .ok (.aload_n 0, 1) := by decide +kernel
theorem d_Nt_hasMixedChoice_4 : decode prog_4_method_19_code 4 = .ok (.getfield 25, 3) := by decide +kernel
theorem d_Nt_hasMixedChoice_7 : decode prog_4_method_19_code 7 = .ok (.if_icmp .gt 50, 3) := by decide +kernel
theorem d_Nt_hasMixedChoice_10 : decode prog_4_method_19_code 10 = .ok (.iload_n 1, 1) := by decide +kernel
theorem d_Nt_hasMixedChoice_11 : decode prog_4_method_19_code 11 = .ok (.aload_n 0, 1) := by decide +kernel
theorem d_Nt_hasMixedChoice_12 : decode prog_4_method_19_code 12 = .ok (.getfield 25, 3) := by decide +kernel
theorem d_Nt_hasMixedChoice_15 : decode prog_4_method_19_code 15 = .ok (.if_icmp .ne 10, 3) := by decide +kernel
theorem d_Nt_hasMixedChoice_18 : decode prog_4_method_19_code 18 = .ok (.aload_n 0, 1) := by decide +kernel
theorem d_Nt_hasMixedChoice_19 : decode prog_4_method_19_code 19 = .ok (.getfield 29, 3) := by decide +kernel
theorem d_Nt_hasMixedChoice_22 : decode prog_4_method_19_code 22 = .ok (.goto 9, 3) := by decide +kernel
theorem d_Nt_hasMixedChoice_25 : decode prog_4_method_19_code 25 = .ok (.aload_n 0, 1) := by decide +kernel
theorem d_Nt_hasMixedChoice_26 : decode prog_4_method_19_code 26 = .ok (.getfield 15, 3) := by decide +kernel
theorem d_Nt_hasMixedChoice_29 : decode prog_4_method_19_code 29 = .ok (.iload_n 1, 1) := by decide +kernel
theorem d_Nt_hasMixedChoice_30 : decode prog_4_method_19_code 30 = .ok (.iaload, 1) := by decide +kernel
theorem d_Nt_hasMixedChoice_31 : decode prog_4_method_19_code 31 = .ok (.istore_n 2, 1) := by decide +kernel
theorem d_Nt_hasMixedChoice_32 : decode prog_4_method_19_code 32 = .ok (.iload_n 2, 1) := by decide +kernel
theorem d_Nt_hasMixedChoice_33 : decode prog_4_method_19_code 33 = .ok (.invokestatic 68, 3) := by decide +kernel
theorem d_Nt_hasMixedChoice_36 : decode prog_4_method_19_code 36 = .ok (.iconst 2, 1) := by decide +kernel
theorem d_Nt_hasMixedChoice_37 : decode prog_4_method_19_code 37 = .ok (.if_icmp .lt 14, 3) := by decide +kernel
theorem d_Nt_hasMixedChoice_40 : decode prog_4_method_19_code 40 = .ok (.aload_n 0, 1) := by decide +kernel
theorem d_Nt_hasMixedChoice_41 : decode prog_4_method_19_code 41 = .ok (.iload_n 1, 1) := by decide +kernel
theorem d_Nt_hasMixedChoice_42 : decode prog_4_method_19_code 42 = .ok (.iload_n 2, 1) := by decide +kernel
theorem d_Nt_hasMixedChoice_43 : decode prog_4_method_19_code 43 = .ok (.invokevirtual 74, 3) := by decide +kernel
theorem d_Nt_hasMixedChoice_46 : decode prog_4_method_19_code 46 = .ok (.ifCond .eq 5, 3) := by decide +kernel
theorem d_Nt_hasMixedChoice_49 : decode prog_4_method_19_code 49 = .ok (.iconst 1, 1) := by decide +kernel
theorem d_Nt_hasMixedChoice_50 : decode prog_4_method_19_code 50 = .ok (.ireturn, 1) := by decide +kernel
theorem d_Nt_hasMixedChoice_51 : decode prog_4_method_19_code 51 = .ok (.iinc 1 1, 3) := by decide +kernel
theorem d_Nt_hasMixedChoice_54 : decode prog_4_method_19_code 54 = .ok (.goto (-52), 3) := by decide +kernel
theorem d_Nt_hasMixedChoice_57 : decode prog_4_method_19_code 57 = .ok (.iconst 0, 1) := by decide +kernel
theorem d_Nt_hasMixedChoice_58 : decode prog_4_method_19_code 58 = .ok (.ireturn, 1) := by decide +kernel
set_option maxRecDepth 20000 in
set_option maxHeartbeats 4000000 in
theorem cN_hasMixedChoice (E : fk_E) (n0 : Nat) (n1 : Nat) (n2 : Nat) (n3 : Nat) (n4 : Nat) (cnt : Nat) (fi : Nat) (la : Nat) (lo : Nat) (me : Nat) (outs : Nat → Nat) (hc : cnt ≤ 14) (hb : ∀ j, j < cnt → outs j < 128) (hf : fi < 128) : fk_C E fy_Nt_hasMixedChoice prog_4_method_19_code 3 (some .boolean) 1 0 0 [.ref n0] [(n0, .inr (2, [.ref n1, .ref n2, .ref n3, .ref n4, .int (nI cnt), .int (nI fi), .int (nI la), .int (nI lo), .int (nI me)])), fk_ai E n2 14 outs] (S := Unit) (fun _ => some (.int (nI (Bool.toNat (fs_any (fs_mix cnt outs fi) (cnt + 1)))))) (fun _ => True) (fun _ => [(n0, .inr (2, [.ref n1, .ref n2, .ref n3, .ref n4, .int (nI cnt), .int (nI fi), .int (nI la), .int (nI lo), .int (nI me)])), fk_ai E n2 14 outs]) := by
  refine fk_enterZ (v := fun _ => fs_any (fs_mix cnt outs fi) (cnt + 1)) (by decide) (Nat.le_of_ble_eq_true rfl) (lv0 := [(0, .ref n0)]) rfl ?_
  intro K hini hret
  refine fk_iconst (v := nI 0) d_Nt_hasMixedChoice_0 (by decide +kernel) ?_
  refine fk_istore_n (lv' := [(0, .ref n0), (1, .int (nI 0))]) d_Nt_hasMixedChoice_1 rfl (Nat.le_of_ble_eq_true rfl) [1, 0] rfl ?_
  have L2 : ∀ (fuel : Nat) (k : Nat), (k ≤ cnt + 1) → (∀ j, j < k → fs_mix cnt outs fi j = false) → cnt + 1 - k < fuel → fk_V E (prog_4_method_19_code, fy_Nt_hasMixedChoice.cls, 3, fk_rm 1 0 0) K (0, 0) [(n0, .inr (2, [.ref n1, .ref n2, .ref n3, .ref n4, .int (nI cnt), .int (nI fi), .int (nI la), .int (nI lo), .int (nI me)])), fk_ai E n2 14 outs] 2 [(0, .ref n0), (1, .int (nI k))] [] := by
    intro fuel
    induction fuel with
    | zero => intro k _ _ hm; exact absurd hm (Nat.not_lt_zero _)
    | succ fuel ih =>
      intro k h1 h2 hm2
      have ih2 := ih
      clear ih
      refine fk_iload_n 1 d_Nt_hasMixedChoice_2 rfl ?_
      refine fk_aload_n 0 d_Nt_hasMixedChoice_3 rfl ?_
      refine fk_get 0 4 rfl rfl fh_Nt (Nat.le_of_ble_eq_true rfl) fw_48 rfl d_Nt_hasMixedChoice_4 ?_
      refine fk_icmp_gt (a := k) (b := cnt) (by omega) (by omega) d_Nt_hasMixedChoice_7 rfl (fun h7t => ?_) (fun h7f => ?_)
      · refine fk_iconst (v := nI 0) d_Nt_hasMixedChoice_57 (by decide +kernel) ?_
        refine fk_top (fn_rf (b := fs_any (fs_mix cnt outs fi) (cnt + 1)) (fs_any_f.mpr (fun j hj => h2 j (by omega)))) ?_
        exact hret (0, 0) _ 58 _ () d_Nt_hasMixedChoice_58 (trivial) (rfl)
      · refine fk_iload_n 1 d_Nt_hasMixedChoice_10 rfl ?_
        refine fk_aload_n 0 d_Nt_hasMixedChoice_11 rfl ?_
        refine fk_get 0 4 rfl rfl fh_Nt (Nat.le_of_ble_eq_true rfl) fw_48 rfl d_Nt_hasMixedChoice_12 ?_
        refine fk_icmp_ne (a := k) (b := cnt) (by omega) (by omega) d_Nt_hasMixedChoice_15 rfl (fun h15t => ?_) (fun h15f => ?_)
        · have g0 : fs_ch cnt outs fi k = outs k := if_neg h15t
          have g1 := hb k (by omega)
          refine fk_aload_n 0 d_Nt_hasMixedChoice_25 rfl ?_
          refine fk_get 0 1 rfl rfl fh_Nt (Nat.le_of_ble_eq_true rfl) fw_45 rfl d_Nt_hasMixedChoice_26 ?_
          refine fk_iload_n 1 d_Nt_hasMixedChoice_29 rfl ?_
          refine fk_ld_ai (i := k) 1 rfl (by omega) (by decide) d_Nt_hasMixedChoice_30 ?_
          refine fk_istore_n (lv' := [(0, .ref n0), (1, .int (nI k)), (2, .int (nI (outs k)))]) d_Nt_hasMixedChoice_31 rfl (Nat.le_of_ble_eq_true rfl) [1, 2, 0] rfl ?_
          refine fk_iload_n 2 d_Nt_hasMixedChoice_32 rfl ?_
          refine fk_callS (As := [.int (nI (outs k))]) (rest := []) (is := []) (ir := [0, 1]) (ip := [0, 1]) (wc := []) (wr := [(n0, .inr (2, [.ref n1, .ref n2, .ref n3, .ref n4, .int (nI cnt), .int (nI fi), .int (nI la), .int (nI lo), .int (nI me)])), fk_ai E n2 14 outs]) (w2 := fun _ => [(n0, .inr (2, [.ref n1, .ref n2, .ref n3, .ref n4, .int (nI cnt), .int (nI fi), .int (nI la), .int (nI lo), .int (nI me)])), fk_ai E n2 14 outs]) (cI_bitCount E (outs k) (by first | omega | assumption)) d_Nt_hasMixedChoice_33 fz_It_bitCount fw_452 fw_453 ⟨Nat.le_of_ble_eq_true rfl, Nat.le_of_ble_eq_true rfl⟩ rfl (Nat.le_of_ble_eq_true rfl) ⟨Nat.zero_le _, Nat.zero_le _⟩ ⟨rfl, rfl, rfl, rfl, by decide, fun _ => rfl, rfl⟩ (fun u hu33 => ?_)
          show fk_V E _ K (0, 0) [(n0, .inr (2, [.ref n1, .ref n2, .ref n3, .ref n4, .int (nI cnt), .int (nI fi), .int (nI la), .int (nI lo), .int (nI me)])), fk_ai E n2 14 outs] 36 [(0, .ref n0), (1, .int (nI k)), (2, .int (nI (outs k)))] [.int (nI (fs_bc (outs k) 7))]
          have g3 := fs_bc_lt _ g1
          refine fk_iconst (v := nI 2) d_Nt_hasMixedChoice_36 (by decide +kernel) ?_
          refine fk_icmp_lt (a := (fs_bc (outs k) 7)) (b := 2) (by omega) (by omega) d_Nt_hasMixedChoice_37 rfl (fun h37t => ?_) (fun h37f => ?_)
          · refine fk_iinc (j := 1) (lv' := [(0, .ref n0), (1, .int (nI (k + 1))), (2, .int (nI (outs k)))]) (k + 1) d_Nt_hasMixedChoice_51 rfl (nI_1 k) (Nat.le_of_ble_eq_true rfl) [1, 0, 2] rfl ?_
            refine fk_goto d_Nt_hasMixedChoice_54 rfl ?_
            refine fk_lv (lv' := [(0, .ref n0), (1, .int (nI (k + 1)))]) [0, 1] rfl ?_
            refine ih2 _ ?_ ?_ ?_
            · first | omega | assumption | exact Nat.zero_le _
            · refine fs_lt_s h2 ?_
              unfold fs_mix
              rw [g0]
              first | rw [h46t, Bool.and_false] | rw [decide_eq_false (by omega), Bool.false_and]
            · omega
          · refine fk_aload_n 0 d_Nt_hasMixedChoice_40 rfl ?_
            refine fk_iload_n 1 d_Nt_hasMixedChoice_41 rfl ?_
            refine fk_iload_n 2 d_Nt_hasMixedChoice_42 rfl ?_
            refine fk_callV (q0 := 0) (As := [.int (nI k), .int (nI (outs k))]) (rest := []) (is := [0, 1]) (ir := []) (ip := [0, 1]) (wc := [(n0, .inr (2, [.ref n1, .ref n2, .ref n3, .ref n4, .int (nI cnt), .int (nI fi), .int (nI la), .int (nI lo), .int (nI me)])), fk_ai E n2 14 outs]) (wr := []) (w2 := fun _ => [(n0, .inr (2, [.ref n1, .ref n2, .ref n3, .ref n4, .int (nI cnt), .int (nI fi), .int (nI la), .int (nI lo), .int (nI me)])), fk_ai E n2 14 outs]) (cN_sharesOutputs E n0 n1 n2 n3 n4 cnt fi la lo me outs k (outs k) (by first | omega | assumption) (by first | omega | assumption) (by first | omega | assumption) (by first | omega | assumption) (by first | omega | assumption)) d_Nt_hasMixedChoice_43 fz_Nt_sharesOutputs fw_462 rfl rfl fw_464 fw_p15 ⟨Nat.le_of_ble_eq_true rfl, Nat.le_of_ble_eq_true rfl⟩ rfl (Nat.le_of_ble_eq_true rfl) ⟨Nat.zero_le _, Nat.zero_le _⟩ ⟨rfl, rfl, rfl, rfl, by decide, fun _ => rfl, rfl⟩ (fun u hu43 => ?_)
            show fk_V E _ K (0, 0) [(n0, .inr (2, [.ref n1, .ref n2, .ref n3, .ref n4, .int (nI cnt), .int (nI fi), .int (nI la), .int (nI lo), .int (nI me)])), fk_ai E n2 14 outs] 46 [(0, .ref n0), (1, .int (nI k)), (2, .int (nI (outs k)))] [.int (nI (Bool.toNat (fs_shr cnt outs fi k (outs k))))]
            refine fk_if_eqB (b := (fs_shr cnt outs fi k (outs k))) d_Nt_hasMixedChoice_46 rfl (fun h46t => ?_) (fun h46f => ?_)
            · refine fk_iinc (j := 1) (lv' := [(0, .ref n0), (1, .int (nI (k + 1))), (2, .int (nI (outs k)))]) (k + 1) d_Nt_hasMixedChoice_51 rfl (nI_1 k) (Nat.le_of_ble_eq_true rfl) [1, 0, 2] rfl ?_
              refine fk_goto d_Nt_hasMixedChoice_54 rfl ?_
              refine fk_lv (lv' := [(0, .ref n0), (1, .int (nI (k + 1)))]) [0, 1] rfl ?_
              refine ih2 _ ?_ ?_ ?_
              · first | omega | assumption | exact Nat.zero_le _
              · refine fs_lt_s h2 ?_
                unfold fs_mix
                rw [g0]
                first | rw [h46t, Bool.and_false] | rw [decide_eq_false (by omega), Bool.false_and]
              · omega
            · refine fk_iconst (v := nI 1) d_Nt_hasMixedChoice_49 (by decide +kernel) ?_
              refine fk_top (fn_rt (b := fs_any (fs_mix cnt outs fi) (cnt + 1)) (fs_any_t (j := k) (by omega) (by unfold fs_mix; rw [g0, h46f, decide_eq_true h37f]; rfl))) ?_
              exact hret (0, 0) _ 50 _ () d_Nt_hasMixedChoice_50 (trivial) (rfl)
        · have g0 : fs_ch cnt outs fi k = fi := if_pos h15f
          have g1 := hf
          refine fk_aload_n 0 d_Nt_hasMixedChoice_18 rfl ?_
          refine fk_get 0 5 rfl rfl fh_Nt (Nat.le_of_ble_eq_true rfl) fw_49 rfl d_Nt_hasMixedChoice_19 ?_
          refine fk_goto d_Nt_hasMixedChoice_22 rfl ?_
          refine fk_istore_n (lv' := [(0, .ref n0), (1, .int (nI k)), (2, .int (nI fi))]) d_Nt_hasMixedChoice_31 rfl (Nat.le_of_ble_eq_true rfl) [1, 2, 0] rfl ?_
          refine fk_iload_n 2 d_Nt_hasMixedChoice_32 rfl ?_
          refine fk_callS (As := [.int (nI fi)]) (rest := []) (is := []) (ir := [0, 1]) (ip := [0, 1]) (wc := []) (wr := [(n0, .inr (2, [.ref n1, .ref n2, .ref n3, .ref n4, .int (nI cnt), .int (nI fi), .int (nI la), .int (nI lo), .int (nI me)])), fk_ai E n2 14 outs]) (w2 := fun _ => [(n0, .inr (2, [.ref n1, .ref n2, .ref n3, .ref n4, .int (nI cnt), .int (nI fi), .int (nI la), .int (nI lo), .int (nI me)])), fk_ai E n2 14 outs]) (cI_bitCount E fi (by first | omega | assumption)) d_Nt_hasMixedChoice_33 fz_It_bitCount fw_452 fw_453 ⟨Nat.le_of_ble_eq_true rfl, Nat.le_of_ble_eq_true rfl⟩ rfl (Nat.le_of_ble_eq_true rfl) ⟨Nat.zero_le _, Nat.zero_le _⟩ ⟨rfl, rfl, rfl, rfl, by decide, fun _ => rfl, rfl⟩ (fun u hu33 => ?_)
          show fk_V E _ K (0, 0) [(n0, .inr (2, [.ref n1, .ref n2, .ref n3, .ref n4, .int (nI cnt), .int (nI fi), .int (nI la), .int (nI lo), .int (nI me)])), fk_ai E n2 14 outs] 36 [(0, .ref n0), (1, .int (nI k)), (2, .int (nI fi))] [.int (nI (fs_bc fi 7))]
          have g3 := fs_bc_lt _ g1
          refine fk_iconst (v := nI 2) d_Nt_hasMixedChoice_36 (by decide +kernel) ?_
          refine fk_icmp_lt (a := (fs_bc fi 7)) (b := 2) (by omega) (by omega) d_Nt_hasMixedChoice_37 rfl (fun h37t => ?_) (fun h37f => ?_)
          · refine fk_iinc (j := 1) (lv' := [(0, .ref n0), (1, .int (nI (k + 1))), (2, .int (nI fi))]) (k + 1) d_Nt_hasMixedChoice_51 rfl (nI_1 k) (Nat.le_of_ble_eq_true rfl) [1, 0, 2] rfl ?_
            refine fk_goto d_Nt_hasMixedChoice_54 rfl ?_
            refine fk_lv (lv' := [(0, .ref n0), (1, .int (nI (k + 1)))]) [0, 1] rfl ?_
            refine ih2 _ ?_ ?_ ?_
            · first | omega | assumption | exact Nat.zero_le _
            · refine fs_lt_s h2 ?_
              unfold fs_mix
              rw [g0]
              first | rw [h46t, Bool.and_false] | rw [decide_eq_false (by omega), Bool.false_and]
            · omega
          · refine fk_aload_n 0 d_Nt_hasMixedChoice_40 rfl ?_
            refine fk_iload_n 1 d_Nt_hasMixedChoice_41 rfl ?_
            refine fk_iload_n 2 d_Nt_hasMixedChoice_42 rfl ?_
            refine fk_callV (q0 := 0) (As := [.int (nI k), .int (nI fi)]) (rest := []) (is := [0, 1]) (ir := []) (ip := [0, 1]) (wc := [(n0, .inr (2, [.ref n1, .ref n2, .ref n3, .ref n4, .int (nI cnt), .int (nI fi), .int (nI la), .int (nI lo), .int (nI me)])), fk_ai E n2 14 outs]) (wr := []) (w2 := fun _ => [(n0, .inr (2, [.ref n1, .ref n2, .ref n3, .ref n4, .int (nI cnt), .int (nI fi), .int (nI la), .int (nI lo), .int (nI me)])), fk_ai E n2 14 outs]) (cN_sharesOutputs E n0 n1 n2 n3 n4 cnt fi la lo me outs k fi (by first | omega | assumption) (by first | omega | assumption) (by first | omega | assumption) (by first | omega | assumption) (by first | omega | assumption)) d_Nt_hasMixedChoice_43 fz_Nt_sharesOutputs fw_462 rfl rfl fw_464 fw_p15 ⟨Nat.le_of_ble_eq_true rfl, Nat.le_of_ble_eq_true rfl⟩ rfl (Nat.le_of_ble_eq_true rfl) ⟨Nat.zero_le _, Nat.zero_le _⟩ ⟨rfl, rfl, rfl, rfl, by decide, fun _ => rfl, rfl⟩ (fun u hu43 => ?_)
            show fk_V E _ K (0, 0) [(n0, .inr (2, [.ref n1, .ref n2, .ref n3, .ref n4, .int (nI cnt), .int (nI fi), .int (nI la), .int (nI lo), .int (nI me)])), fk_ai E n2 14 outs] 46 [(0, .ref n0), (1, .int (nI k)), (2, .int (nI fi))] [.int (nI (Bool.toNat (fs_shr cnt outs fi k fi)))]
            refine fk_if_eqB (b := (fs_shr cnt outs fi k fi)) d_Nt_hasMixedChoice_46 rfl (fun h46t => ?_) (fun h46f => ?_)
            · refine fk_iinc (j := 1) (lv' := [(0, .ref n0), (1, .int (nI (k + 1))), (2, .int (nI fi))]) (k + 1) d_Nt_hasMixedChoice_51 rfl (nI_1 k) (Nat.le_of_ble_eq_true rfl) [1, 0, 2] rfl ?_
              refine fk_goto d_Nt_hasMixedChoice_54 rfl ?_
              refine fk_lv (lv' := [(0, .ref n0), (1, .int (nI (k + 1)))]) [0, 1] rfl ?_
              refine ih2 _ ?_ ?_ ?_
              · first | omega | assumption | exact Nat.zero_le _
              · refine fs_lt_s h2 ?_
                unfold fs_mix
                rw [g0]
                first | rw [h46t, Bool.and_false] | rw [decide_eq_false (by omega), Bool.false_and]
              · omega
            · refine fk_iconst (v := nI 1) d_Nt_hasMixedChoice_49 (by decide +kernel) ?_
              refine fk_top (fn_rt (b := fs_any (fs_mix cnt outs fi) (cnt + 1)) (fs_any_t (j := k) (by omega) (by unfold fs_mix; rw [g0, h46f, decide_eq_true h37f]; rfl))) ?_
              exact hret (0, 0) _ 50 _ () d_Nt_hasMixedChoice_50 (trivial) (rfl)
  refine L2 _ _ ?_ ?_ (Nat.lt_succ_self _)
  · first | omega | assumption | exact Nat.zero_le _
  · exact fs_lt_0
theorem d_Nt_isLike_0 : decode prog_4_method_21_code 0 = .ok (.aload_n 0, 1) := by decide +kernel
theorem d_Nt_isLike_1 : decode prog_4_method_21_code 1 = .ok (.getfield 38, 3) := by decide +kernel
theorem d_Nt_isLike_4 : decode prog_4_method_21_code 4 = .ok (.aload_n 1, 1) := by decide +kernel
theorem d_Nt_isLike_5 : decode prog_4_method_21_code 5 = .ok (.getfield 38, 3) := by decide +kernel
theorem d_Nt_isLike_8 : decode prog_4_method_21_code 8 = .ok (.if_icmp .ne 36, 3) := by decide +kernel
theorem d_Nt_isLike_11 : decode prog_4_method_21_code 11 = .ok (.aload_n 0, 1) := by decide +kernel
theorem d_Nt_isLike_12 : decode prog_4_method_21_code 12 = .ok (.getfield 29, 3) := by decide +kernel
theorem d_Nt_isLike_15 : decode prog_4_method_21_code 15 = .ok (.aload_n 1, 1) := by decide +kernel
theorem d_Nt_isLike_16 : decode prog_4_method_21_code 16 = .ok (.getfield 29, 3) := by decide +kernel
theorem d_Nt_isLike_19 : decode prog_4_method_21_code 19 = .ok (.if_icmp .ne 25, 3) := by decide +kernel
theorem d_Nt_isLike_22 : decode prog_4_method_21_code 22 = .ok (.aload_n 0, 1) := by decide +kernel
theorem d_Nt_isLike_23 : decode prog_4_method_21_code 23 = .ok (.getfield 32, 3) := by decide +kernel
theorem d_Nt_isLike_26 : decode prog_4_method_21_code 26 = .ok (.aload_n 1, 1) := by decide +kernel
theorem d_Nt_isLike_27 : decode prog_4_method_21_code 27 = .ok (.getfield 32, 3) := by decide +kernel
theorem d_Nt_isLike_30 : decode prog_4_method_21_code 30 = .ok (.if_icmp .ne 14, 3) := by decide +kernel
theorem d_Nt_isLike_33 : decode prog_4_method_21_code 33 = .ok (.aload_n 0, 1) := by decide +kernel
theorem d_Nt_isLike_34 : decode prog_4_method_21_code 34 = .ok (.getfield 25, 3) := by decide +kernel
theorem d_Nt_isLike_37 : decode prog_4_method_21_code 37 = .ok (.aload_n 1, 1) := by decide +kernel
theorem d_Nt_isLike_38 : decode prog_4_method_21_code 38 = .ok (.getfield 25, 3) := by decide +kernel
theorem d_Nt_isLike_41 : decode prog_4_method_21_code 41 = .ok (.if_icmp .eq 5, 3) := by decide +kernel
theorem d_Nt_isLike_44 : decode prog_4_method_21_code 44 = .ok (.iconst 0, 1) := by decide +kernel
theorem d_Nt_isLike_45 : decode prog_4_method_21_code 45 = .ok (.ireturn, 1) := by decide +kernel
theorem d_Nt_isLike_46 : decode prog_4_method_21_code 46 = .ok (.iconst 0, 1) := by decide +kernel
theorem d_Nt_isLike_47 : decode prog_4_method_21_code 47 = .ok (.istore_n 2, 1) := by decide +kernel
theorem d_Nt_isLike_48 : decode prog_4_method_21_code 48 = .ok (.iload_n 2, 1) := by decide +kernel
theorem d_Nt_isLike_49 : decode prog_4_method_21_code 49 = .ok (.aload_n 0, 1) := by decide +kernel
theorem d_Nt_isLike_50 : decode prog_4_method_21_code 50 = .ok (.getfield 25, 3) := by decide +kernel
theorem d_Nt_isLike_53 : decode prog_4_method_21_code 53 = .ok (.if_icmp .ge 30, 3) := by decide +kernel
theorem d_Nt_isLike_56 : decode prog_4_method_21_code 56 = .ok (.aload_n 1, 1) := by decide +kernel
theorem d_Nt_isLike_57 : decode prog_4_method_21_code 57 = .ok (.aload_n 0, 1) := by decide +kernel
theorem d_Nt_isLike_58 : decode prog_4_method_21_code 58 = .ok (.getfield 9, 3) := by decide +kernel
theorem d_Nt_isLike_61 : decode prog_4_method_21_code 61 = .ok (.iload_n 2, 1) := by decide +kernel
theorem d_Nt_isLike_62 : decode prog_4_method_21_code 62 = .ok (.iaload, 1) := by decide +kernel
theorem d_Nt_isLike_63 : decode prog_4_method_21_code 63 = .ok (.aload_n 0, 1) := by decide +kernel
theorem d_Nt_isLike_64 : decode prog_4_method_21_code 64 = .ok (.getfield 15, 3) := by decide +kernel
theorem d_Nt_isLike_67 : decode prog_4_method_21_code 67 = .ok (.iload_n 2, 1) := by decide +kernel
theorem d_Nt_isLike_68 : decode prog_4_method_21_code 68 = .ok (.iaload, 1) := by decide +kernel
theorem d_Nt_isLike_69 : decode prog_4_method_21_code 69 = .ok (.invokevirtual 77, 3) := by decide +kernel
theorem d_Nt_isLike_72 : decode prog_4_method_21_code 72 = .ok (.ifCond .ne 5, 3) := by decide +kernel
theorem d_Nt_isLike_75 : decode prog_4_method_21_code 75 = .ok (.iconst 0, 1) := by decide +kernel
theorem d_Nt_isLike_76 : decode prog_4_method_21_code 76 = .ok (.ireturn, 1) := by decide +kernel
theorem d_Nt_isLike_77 : decode prog_4_method_21_code 77 = .ok (.iinc 2 1, 3) := by decide +kernel
theorem d_Nt_isLike_80 : decode prog_4_method_21_code 80 = .ok (.goto (-32), 3) := by decide +kernel
theorem d_Nt_isLike_83 : decode prog_4_method_21_code 83 = .ok (.iconst 1, 1) := by decide +kernel
theorem d_Nt_isLike_84 : decode prog_4_method_21_code 84 = .ok (.ireturn, 1) := by decide +kernel
set_option maxRecDepth 20000 in
set_option maxHeartbeats 4000000 in
theorem cN_isLike (E : fk_E) (n0 : Nat) (n1 : Nat) (n2 : Nat) (n3 : Nat) (n4 : Nat) (cnt : Nat) (fi : Nat) (la : Nat) (lo : Nat) (me : Nat) (m0 : Nat) (m1 : Nat) (m2 : Nat) (m3 : Nat) (m4 : Nat) (cn2 : Nat) (fi2 : Nat) (la2 : Nat) (lo2 : Nat) (me2 : Nat) (ins : Nat → Nat) (outs : Nat → Nat) (in2 : Nat → Nat) (ou2 : Nat → Nat) (hc : cnt ≤ 14) (hb : ∀ j, j < cnt → ins j < 128 ∧ outs j < 128) (hc2 : cn2 ≤ 14) (hb2 : ∀ j, j < cn2 → in2 j < 128 ∧ ou2 j < 128) (hf : fi < 128 ∧ la < 128 ∧ me < 128) (hf2 : fi2 < 128 ∧ la2 < 128 ∧ me2 < 128) : fk_C E fy_Nt_isLike prog_4_method_21_code 3 (some .boolean) 1 0 0 [.ref n0, .ref m0] [(n0, .inr (2, [.ref n1, .ref n2, .ref n3, .ref n4, .int (nI cnt), .int (nI fi), .int (nI la), .int (nI lo), .int (nI me)])), fk_ai E n1 14 ins, fk_ai E n2 14 outs, (m0, .inr (2, [.ref m1, .ref m2, .ref m3, .ref m4, .int (nI cn2), .int (nI fi2), .int (nI la2), .int (nI lo2), .int (nI me2)])), fk_ai E m1 14 in2, fk_ai E m2 14 ou2] (S := Unit) (fun _ => some (.int (nI (Bool.toNat (decide (me = me2 ∧ fi = fi2 ∧ la = la2 ∧ cnt = cn2) && fs_all (fun z9 => fs_any (fun z8 => decide (in2 z8 = ins z9) && decide (ou2 z8 = outs z9)) cn2) cnt))))) (fun _ => True) (fun _ => [(n0, .inr (2, [.ref n1, .ref n2, .ref n3, .ref n4, .int (nI cnt), .int (nI fi), .int (nI la), .int (nI lo), .int (nI me)])), fk_ai E n1 14 ins, fk_ai E n2 14 outs, (m0, .inr (2, [.ref m1, .ref m2, .ref m3, .ref m4, .int (nI cn2), .int (nI fi2), .int (nI la2), .int (nI lo2), .int (nI me2)])), fk_ai E m1 14 in2, fk_ai E m2 14 ou2]) := by
  refine fk_enterZ (v := fun _ => decide (me = me2 ∧ fi = fi2 ∧ la = la2 ∧ cnt = cn2) && fs_all (fun z9 => fs_any (fun z8 => decide (in2 z8 = ins z9) && decide (ou2 z8 = outs z9)) cn2) cnt) (by decide) (Nat.le_of_ble_eq_true rfl) (lv0 := [(0, .ref n0), (1, .ref m0)]) rfl ?_
  intro K hini hret
  refine fk_aload_n 0 d_Nt_isLike_0 rfl ?_
  refine fk_get 0 8 rfl rfl fh_Nt (Nat.le_of_ble_eq_true rfl) fw_52 rfl d_Nt_isLike_1 ?_
  refine fk_aload_n 1 d_Nt_isLike_4 rfl ?_
  refine fk_get 3 8 rfl rfl fh_Nt (Nat.le_of_ble_eq_true rfl) fw_52 rfl d_Nt_isLike_5 ?_
  refine fk_icmp_ne (a := me) (b := me2) (by omega) (by omega) d_Nt_isLike_8 rfl (fun h8t => ?_) (fun h8f => ?_)
  · refine fk_iconst (v := nI 0) d_Nt_isLike_44 (by decide +kernel) ?_
    refine fk_top (fn_rf (b := decide (me = me2 ∧ fi = fi2 ∧ la = la2 ∧ cnt = cn2) && fs_all (fun z9 => fs_any (fun z8 => decide (in2 z8 = ins z9) && decide (ou2 z8 = outs z9)) cn2) cnt) (by rw [decide_eq_false (by omega), Bool.false_and])) ?_
    exact hret (0, 0) _ 45 _ () d_Nt_isLike_45 (trivial) (rfl)
  · refine fk_aload_n 0 d_Nt_isLike_11 rfl ?_
    refine fk_get 0 5 rfl rfl fh_Nt (Nat.le_of_ble_eq_true rfl) fw_49 rfl d_Nt_isLike_12 ?_
    refine fk_aload_n 1 d_Nt_isLike_15 rfl ?_
    refine fk_get 3 5 rfl rfl fh_Nt (Nat.le_of_ble_eq_true rfl) fw_49 rfl d_Nt_isLike_16 ?_
    refine fk_icmp_ne (a := fi) (b := fi2) (by omega) (by omega) d_Nt_isLike_19 rfl (fun h19t => ?_) (fun h19f => ?_)
    · refine fk_iconst (v := nI 0) d_Nt_isLike_44 (by decide +kernel) ?_
      refine fk_top (fn_rf (b := decide (me = me2 ∧ fi = fi2 ∧ la = la2 ∧ cnt = cn2) && fs_all (fun z9 => fs_any (fun z8 => decide (in2 z8 = ins z9) && decide (ou2 z8 = outs z9)) cn2) cnt) (by rw [decide_eq_false (by omega), Bool.false_and])) ?_
      exact hret (0, 0) _ 45 _ () d_Nt_isLike_45 (trivial) (rfl)
    · refine fk_aload_n 0 d_Nt_isLike_22 rfl ?_
      refine fk_get 0 6 rfl rfl fh_Nt (Nat.le_of_ble_eq_true rfl) fw_50 rfl d_Nt_isLike_23 ?_
      refine fk_aload_n 1 d_Nt_isLike_26 rfl ?_
      refine fk_get 3 6 rfl rfl fh_Nt (Nat.le_of_ble_eq_true rfl) fw_50 rfl d_Nt_isLike_27 ?_
      refine fk_icmp_ne (a := la) (b := la2) (by omega) (by omega) d_Nt_isLike_30 rfl (fun h30t => ?_) (fun h30f => ?_)
      · refine fk_iconst (v := nI 0) d_Nt_isLike_44 (by decide +kernel) ?_
        refine fk_top (fn_rf (b := decide (me = me2 ∧ fi = fi2 ∧ la = la2 ∧ cnt = cn2) && fs_all (fun z9 => fs_any (fun z8 => decide (in2 z8 = ins z9) && decide (ou2 z8 = outs z9)) cn2) cnt) (by rw [decide_eq_false (by omega), Bool.false_and])) ?_
        exact hret (0, 0) _ 45 _ () d_Nt_isLike_45 (trivial) (rfl)
      · refine fk_aload_n 0 d_Nt_isLike_33 rfl ?_
        refine fk_get 0 4 rfl rfl fh_Nt (Nat.le_of_ble_eq_true rfl) fw_48 rfl d_Nt_isLike_34 ?_
        refine fk_aload_n 1 d_Nt_isLike_37 rfl ?_
        refine fk_get 3 4 rfl rfl fh_Nt (Nat.le_of_ble_eq_true rfl) fw_48 rfl d_Nt_isLike_38 ?_
        refine fk_icmp_eq (a := cnt) (b := cn2) (by omega) (by omega) d_Nt_isLike_41 rfl (fun h41t => ?_) (fun h41f => ?_)
        · refine fk_iconst (v := nI 0) d_Nt_isLike_46 (by decide +kernel) ?_
          refine fk_istore_n (lv' := [(0, .ref n0), (1, .ref m0), (2, .int (nI 0))]) d_Nt_isLike_47 rfl (Nat.le_of_ble_eq_true rfl) [1, 2, 0] rfl ?_
          have L48 : ∀ (fuel : Nat) (k : Nat), (k ≤ cnt) → (∀ j, j < k → fs_any (fun i => decide (in2 i = ins j) && decide (ou2 i = outs j)) cn2 = true) → cnt - k < fuel → fk_V E (prog_4_method_21_code, fy_Nt_isLike.cls, 3, fk_rm 1 0 0) K (0, 0) [(n0, .inr (2, [.ref n1, .ref n2, .ref n3, .ref n4, .int (nI cnt), .int (nI fi), .int (nI la), .int (nI lo), .int (nI me)])), fk_ai E n1 14 ins, fk_ai E n2 14 outs, (m0, .inr (2, [.ref m1, .ref m2, .ref m3, .ref m4, .int (nI cn2), .int (nI fi2), .int (nI la2), .int (nI lo2), .int (nI me2)])), fk_ai E m1 14 in2, fk_ai E m2 14 ou2] 48 [(0, .ref n0), (1, .ref m0), (2, .int (nI k))] [] := by
            intro fuel
            induction fuel with
            | zero => intro k _ _ hm; exact absurd hm (Nat.not_lt_zero _)
            | succ fuel ih =>
              intro k h1 h2 hm48
              have ih48 := ih
              clear ih
              refine fk_iload_n 2 d_Nt_isLike_48 rfl ?_
              refine fk_aload_n 0 d_Nt_isLike_49 rfl ?_
              refine fk_get 0 4 rfl rfl fh_Nt (Nat.le_of_ble_eq_true rfl) fw_48 rfl d_Nt_isLike_50 ?_
              refine fk_icmp_ge (a := k) (b := cnt) (by omega) (by omega) d_Nt_isLike_53 rfl (fun h53t => ?_) (fun h53f => ?_)
              · refine fk_iconst (v := nI 1) d_Nt_isLike_83 (by decide +kernel) ?_
                refine fk_top (fn_rt (b := decide (me = me2 ∧ fi = fi2 ∧ la = la2 ∧ cnt = cn2) && fs_all (fun z9 => fs_any (fun z8 => decide (in2 z8 = ins z9) && decide (ou2 z8 = outs z9)) cn2) cnt) (by rw [decide_eq_true (by omega), fs_all_iff.mpr (fun j hj => h2 j (by omega))]; rfl)) ?_
                exact hret (0, 0) _ 84 _ () d_Nt_isLike_84 (trivial) (rfl)
              · have g1 := hb k (by omega)
                refine fk_aload_n 1 d_Nt_isLike_56 rfl ?_
                refine fk_aload_n 0 d_Nt_isLike_57 rfl ?_
                refine fk_get 0 0 rfl rfl fh_Nt (Nat.le_of_ble_eq_true rfl) fw_44 rfl d_Nt_isLike_58 ?_
                refine fk_iload_n 2 d_Nt_isLike_61 rfl ?_
                refine fk_ld_ai (i := k) 1 rfl (by omega) (by decide) d_Nt_isLike_62 ?_
                refine fk_aload_n 0 d_Nt_isLike_63 rfl ?_
                refine fk_get 0 1 rfl rfl fh_Nt (Nat.le_of_ble_eq_true rfl) fw_45 rfl d_Nt_isLike_64 ?_
                refine fk_iload_n 2 d_Nt_isLike_67 rfl ?_
                refine fk_ld_ai (i := k) 2 rfl (by omega) (by decide) d_Nt_isLike_68 ?_
                refine fk_callV (q0 := 3) (As := [.int (nI (ins k)), .int (nI (outs k))]) (rest := []) (is := [3, 4, 5]) (ir := [0, 1, 2]) (ip := [0, 1, 2, 3, 4, 5]) (wc := [(m0, .inr (2, [.ref m1, .ref m2, .ref m3, .ref m4, .int (nI cn2), .int (nI fi2), .int (nI la2), .int (nI lo2), .int (nI me2)])), fk_ai E m1 14 in2, fk_ai E m2 14 ou2]) (wr := [(n0, .inr (2, [.ref n1, .ref n2, .ref n3, .ref n4, .int (nI cnt), .int (nI fi), .int (nI la), .int (nI lo), .int (nI me)])), fk_ai E n1 14 ins, fk_ai E n2 14 outs]) (w2 := fun _ => [(n0, .inr (2, [.ref n1, .ref n2, .ref n3, .ref n4, .int (nI cnt), .int (nI fi), .int (nI la), .int (nI lo), .int (nI me)])), fk_ai E n1 14 ins, fk_ai E n2 14 outs, (m0, .inr (2, [.ref m1, .ref m2, .ref m3, .ref m4, .int (nI cn2), .int (nI fi2), .int (nI la2), .int (nI lo2), .int (nI me2)])), fk_ai E m1 14 in2, fk_ai E m2 14 ou2]) (cN_hasPlace E m0 m1 m2 m3 m4 cn2 fi2 la2 lo2 me2 in2 ou2 (ins k) (outs k) (by first | omega | assumption) (by first | omega | assumption) (by first | omega | assumption) (by first | omega | assumption)) d_Nt_isLike_69 fz_Nt_hasPlace fw_500 rfl rfl fw_314 fw_315 ⟨Nat.le_of_ble_eq_true rfl, Nat.le_of_ble_eq_true rfl⟩ rfl (Nat.le_of_ble_eq_true rfl) ⟨Nat.zero_le _, Nat.zero_le _⟩ ⟨rfl, rfl, rfl, rfl, by decide, fun _ => rfl, rfl⟩ (fun u hu69 => ?_)
                show fk_V E _ K (0, 0) [(n0, .inr (2, [.ref n1, .ref n2, .ref n3, .ref n4, .int (nI cnt), .int (nI fi), .int (nI la), .int (nI lo), .int (nI me)])), fk_ai E n1 14 ins, fk_ai E n2 14 outs, (m0, .inr (2, [.ref m1, .ref m2, .ref m3, .ref m4, .int (nI cn2), .int (nI fi2), .int (nI la2), .int (nI lo2), .int (nI me2)])), fk_ai E m1 14 in2, fk_ai E m2 14 ou2] 72 [(0, .ref n0), (1, .ref m0), (2, .int (nI k))] [.int (nI (Bool.toNat (fs_any (fun z9 => decide (in2 z9 = (ins k)) && decide (ou2 z9 = (outs k))) cn2)))]
                refine fk_if_neB (b := (fs_any (fun z9 => decide (in2 z9 = (ins k)) && decide (ou2 z9 = (outs k))) cn2)) d_Nt_isLike_72 rfl (fun h72t => ?_) (fun h72f => ?_)
                · refine fk_iinc (j := 2) (lv' := [(0, .ref n0), (1, .ref m0), (2, .int (nI (k + 1)))]) (k + 1) d_Nt_isLike_77 rfl (nI_1 k) (Nat.le_of_ble_eq_true rfl) [1, 2, 0] rfl ?_
                  refine fk_goto d_Nt_isLike_80 rfl ?_
                  refine ih48 _ ?_ ?_ ?_
                  · first | omega | assumption | exact Nat.zero_le _
                  · exact fs_lt_t (f := fun j => fs_any (fun i => decide (in2 i = ins j) && decide (ou2 i = outs j)) cn2) h2 h72t
                  · omega
                · refine fk_iconst (v := nI 0) d_Nt_isLike_75 (by decide +kernel) ?_
                  refine fk_top (fn_rf (b := decide (me = me2 ∧ fi = fi2 ∧ la = la2 ∧ cnt = cn2) && fs_all (fun z9 => fs_any (fun z8 => decide (in2 z8 = ins z9) && decide (ou2 z8 = outs z9)) cn2) cnt) (by rw [fs_all_f (j := k) (by omega) h72f, Bool.and_false])) ?_
                  exact hret (0, 0) _ 76 _ () d_Nt_isLike_76 (trivial) (rfl)
          refine L48 _ _ ?_ ?_ (Nat.lt_succ_self _)
          · first | omega | assumption | exact Nat.zero_le _
          · exact fs_lt_0
        · refine fk_iconst (v := nI 0) d_Nt_isLike_44 (by decide +kernel) ?_
          refine fk_top (fn_rf (b := decide (me = me2 ∧ fi = fi2 ∧ la = la2 ∧ cnt = cn2) && fs_all (fun z9 => fs_any (fun z8 => decide (in2 z8 = ins z9) && decide (ou2 z8 = outs z9)) cn2) cnt) (by rw [decide_eq_false (by omega), Bool.false_and])) ?_
          exact hret (0, 0) _ 45 _ () d_Nt_isLike_45 (trivial) (rfl)
