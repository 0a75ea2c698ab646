theorem d_Md_place_0 : decode prog_8_method_14_code 0 = .ok (.iload_n 1, 1) := by decide +kernel
theorem d_Md_place_1 : decode prog_8_method_14_code 1 = .ok (.iconst 1, 1) := by decide +kernel
theorem d_Md_place_2 : decode prog_8_method_14_code 2 = .ok (.if_icmp .lt 20, 3) := by decide +kernel
theorem d_Md_place_5 : decode prog_8_method_14_code 5 = .ok (.iload_n 1, 1) := by decide +kernel
theorem d_Md_place_6 : decode prog_8_method_14_code 6 = .ok (.bipush 127, 2) := by decide +kernel
theorem d_Md_place_8 : decode prog_8_method_14_code 8 = .ok (.if_icmp .gt 14, 3) := by decide +kernel
theorem d_Md_place_11 : decode prog_8_method_14_code 11 = .ok (.iload_n 2, 1) := by decide +kernel
theorem d_Md_place_12 : decode prog_8_method_14_code 12 = .ok (.iconst 1, 1) := by decide +kernel
theorem d_Md_place_13 : decode prog_8_method_14_code 13 = .ok (.if_icmp .lt 9, 3) := by decide +kernel
theorem d_Md_place_16 : decode prog_8_method_14_code 16 = .ok (.iload_n 2, 1) := by decide +kernel
theorem d_Md_place_17 : decode prog_8_method_14_code 17 = .ok (.bipush 127, 2) := by decide +kernel
theorem d_Md_place_19 : decode prog_8_method_14_code 19 = .ok (.if_icmp .le 5, 3) := by decide +kernel
theorem d_Md_place_22 : decode prog_8_method_14_code 22 = .ok (.iconst (-1), 1) := by decide +kernel
theorem d_Md_place_23 : decode prog_8_method_14_code 23 = .ok (.ireturn, 1) := by decide +kernel
theorem d_Md_place_24 : decode prog_8_method_14_code 24 = .ok (.iconst 0, 1) := by decide +kernel
theorem d_Md_place_25 : decode prog_8_method_14_code 25 = .ok (.istore_n 3, 1) := by decide +kernel
theorem d_Md_place_26 : decode prog_8_method_14_code 26 = .ok (.iload_n 3, 1) := by decide +kernel
theorem d_Md_place_27 : decode prog_8_method_14_code 27 = .ok (.aload_n 0, 1) := by decide +kernel
theorem d_Md_place_28 : decode prog_8_method_14_code 28 = .ok (.getfield 16, 3) := by decide +kernel
theorem d_Md_place_31 : decode prog_8_method_14_code 31 = .ok (.iconst 0, 1) := by decide +kernel
theorem d_Md_place_32 : decode prog_8_method_14_code 32 = .ok (.iaload, 1) := by decide +kernel
theorem d_Md_place_33 : decode prog_8_method_14_code 33 = .ok (.if_icmp .ge 32, 3) := by decide +kernel
theorem d_Md_place_36 : decode prog_8_method_14_code 36 = .ok (.aload_n 0, 1) := by decide +kernel
theorem d_Md_place_37 : decode prog_8_method_14_code 37 = .ok (.getfield 19, 3) := by decide +kernel
theorem d_Md_place_40 : decode prog_8_method_14_code 40 = .ok (.iload_n 3, 1) := by decide +kernel
theorem d_Md_place_41 : decode prog_8_method_14_code 41 = .ok (.iaload, 1) := by decide +kernel
theorem d_Md_place_42 : decode prog_8_method_14_code 42 = .ok (.iload_n 1, 1) := by decide +kernel
theorem d_Md_place_43 : decode prog_8_method_14_code 43 = .ok (.if_icmp .ne 16, 3) := by decide +kernel
theorem d_Md_place_46 : decode prog_8_method_14_code 46 = .ok (.aload_n 0, 1) := by decide +kernel
theorem d_Md_place_47 : decode prog_8_method_14_code 47 = .ok (.getfield 22, 3) := by decide +kernel
theorem d_Md_place_50 : decode prog_8_method_14_code 50 = .ok (.iload_n 3, 1) := by decide +kernel
theorem d_Md_place_51 : decode prog_8_method_14_code 51 = .ok (.iaload, 1) := by decide +kernel
theorem d_Md_place_52 : decode prog_8_method_14_code 52 = .ok (.iload_n 2, 1) := by decide +kernel
theorem d_Md_place_53 : decode prog_8_method_14_code 53 = .ok (.if_icmp .ne 6, 3) := by decide +kernel
theorem d_Md_place_56 : decode prog_8_method_14_code 56 = .ok (.bipush (-4), 2) := by decide +kernel
theorem d_Md_place_58 : decode prog_8_method_14_code 58 = .ok (.ireturn, 1) := by decide +kernel
theorem d_Md_place_59 : decode prog_8_method_14_code 59 = .ok (.iinc 3 1, 3) := by decide +kernel
theorem d_Md_place_62 : decode prog_8_method_14_code 62 = .ok (.goto (-36), 3) := by decide +kernel
theorem d_Md_place_65 : decode prog_8_method_14_code 65 = .ok (.aload_n 0, 1) := by decide +kernel
theorem d_Md_place_66 : decode prog_8_method_14_code 66 = .ok (.getfield 16, 3) := by decide +kernel
theorem d_Md_place_69 : decode prog_8_method_14_code 69 = .ok (.iconst 0, 1) := by decide +kernel
theorem d_Md_place_70 : decode prog_8_method_14_code 70 = .ok (.iaload, 1) := by decide +kernel
theorem d_Md_place_71 : decode prog_8_method_14_code 71 = .ok (.bipush 14, 2) := by decide +kernel
theorem d_Md_place_73 : decode prog_8_method_14_code 73 = .ok (.if_icmp .ne 6, 3) := by decide +kernel
theorem d_Md_place_76 : decode prog_8_method_14_code 76 = .ok (.bipush (-2), 2) := by decide +kernel
theorem d_Md_place_78 : decode prog_8_method_14_code 78 = .ok (.ireturn, 1) := by decide +kernel
theorem d_Md_place_79 : decode prog_8_method_14_code 79 = .ok (.aload_n 0, 1) := by decide +kernel
theorem d_Md_place_80 : decode prog_8_method_14_code 80 = .ok (.getfield 19, 3) := by decide +kernel
theorem d_Md_place_83 : decode prog_8_method_14_code 83 = .ok (.aload_n 0, 1) := by decide +kernel
theorem d_Md_place_84 : decode prog_8_method_14_code 84 = .ok (.getfield 16, 3) := by decide +kernel
theorem d_Md_place_87 : decode prog_8_method_14_code 87 = .ok (.iconst 0, 1) := by decide +kernel
theorem d_Md_place_88 : decode prog_8_method_14_code 88 = .ok (.iaload, 1) := by decide +kernel
theorem d_Md_place_89 : decode prog_8_method_14_code 89 = .ok (.iload_n 1, 1) := by decide +kernel
theorem d_Md_place_90 : decode prog_8_method_14_code 90 = .ok (.iastore, 1) := by decide +kernel
theorem d_Md_place_91 : decode prog_8_method_14_code 91 = .ok (.aload_n 0, 1) := by decide +kernel
theorem d_Md_place_92 : decode prog_8_method_14_code 92 = .ok (.getfield 22, 3) := by decide +kernel
theorem d_Md_place_95 : decode prog_8_method_14_code 95 = .ok (.aload_n 0, 1) := by decide +kernel
theorem d_Md_place_96 : decode prog_8_method_14_code 96 = .ok (.getfield 16, 3) := by decide +kernel
theorem d_Md_place_99 : decode prog_8_method_14_code 99 = .ok (.iconst 0, 1) := by decide +kernel
theorem d_Md_place_100 : decode prog_8_method_14_code 100 = .ok (.iaload, 1) := by decide +kernel
theorem d_Md_place_101 : decode prog_8_method_14_code 101 = .ok (.iload_n 2, 1) := by decide +kernel
theorem d_Md_place_102 : decode prog_8_method_14_code 102 = .ok (.iastore, 1) := by decide +kernel
theorem d_Md_place_103 : decode prog_8_method_14_code 103 = .ok (.aload_n 0, 1) := by decide +kernel
theorem d_Md_place_104 : decode prog_8_method_14_code 104 = .ok (.getfield 16, 3) := by decide +kernel
theorem d_Md_place_107 : decode prog_8_method_14_code 107 = .ok (.iconst 0, 1) := by decide +kernel
theorem d_Md_place_108 : decode prog_8_method_14_code 108 = .ok (.dup2, 1) := by decide +kernel
theorem d_Md_place_109 : decode prog_8_method_14_code 109 = .ok (.iaload, 1) := by decide +kernel
theorem d_Md_place_110 : decode prog_8_method_14_code 110 = .ok (.iconst 1, 1) := by decide +kernel
theorem d_Md_place_111 : decode prog_8_method_14_code 111 = .ok (.iadd, 1) := by decide +kernel
theorem d_Md_place_112 : decode prog_8_method_14_code 112 = .ok (.iastore, 1) := by decide +kernel
theorem d_Md_place_113 : decode prog_8_method_14_code 113 = .ok (.aload_n 0, 1) := by decide +kernel
theorem d_Md_place_114 : decode prog_8_method_14_code 114 = .ok (.getfield 16, 3) := by decide +kernel
theorem d_Md_place_117 : decode prog_8_method_14_code 117 = .ok (.iconst 0, 1) := by decide +kernel
theorem d_Md_place_118 : decode prog_8_method_14_code 118 = .ok (.iaload, 1) := by decide +kernel
theorem d_Md_place_119 : decode prog_8_method_14_code 119 = .ok (.iconst 1, 1) := by decide +kernel
theorem d_Md_place_120 : decode prog_8_method_14_code 120 = .ok (.isub, 1) := by decide +kernel
theorem d_Md_place_121 : decode prog_8_method_14_code 121 = .ok (.ireturn, 1) := by decide +kernel
set_option maxRecDepth 20000 in
set_option maxHeartbeats 4000000 in
theorem cD_placeD (E : fk_E) (b0 : Nat) (b1 : Nat) (b2 : Nat) (b3 : Nat) (b4 : Nat) (b5 : Nat) (b6 : Nat) (b7 : Nat) (b8 : Nat) (b9 : Nat) (b10 : Nat) (b11 : Nat) (b12 : Nat) (b13 : Nat) (b14 : Nat) (b15 : Nat) (mt : Nat) (mf : Nat) (my : Nat) (mw : Bool) (mc : Nat → Nat) (mi : Nat → Nat) (mu : Nat → Nat) (mfi : Nat → Nat) (mla : Nat → Nat) (i : Nat) (o : Nat) (hN : fr_N mc mi mu mfi mla) (hi : 0 < i ∧ i < 128) (ho : 0 < o ∧ o < 128) (hd : fs_any (fun z9 => decide (mi z9 = i) && decide (mu z9 = o)) (mc 0) = true) : fk_C E fy_Md_place prog_8_method_14_code 4 (some .int) 0 0 0 [.ref b0, .int (nI i), .int (nI o)] [(b0, .inr (6, [.int (nI mt), .ref b1, .ref b2, .ref b3, .ref b4, .ref b5, .ref b6, .ref b7, .ref b8, .ref b9, .int (nI mf), .ref b10, .ref b11, .ref b12, .int (nI my), .int (nI (Bool.toNat mw)), .ref b13, .ref b14, .ref b15])), fk_ai E b3 2 mc, fk_ai E b4 28 mi, fk_ai E b5 28 mu] (S := Unit) (fun _ => some (.int (-4))) (fun _ => True) (fun _ => [(b0, .inr (6, [.int (nI mt), .ref b1, .ref b2, .ref b3, .ref b4, .ref b5, .ref b6, .ref b7, .ref b8, .ref b9, .int (nI mf), .ref b10, .ref b11, .ref b12, .int (nI my), .int (nI (Bool.toNat mw)), .ref b13, .ref b14, .ref b15])), fk_ai E b3 2 mc, fk_ai E b4 28 mi, fk_ai E b5 28 mu]) := by
  refine fk_enterI (v := fun _ => (-4)) (by decide) (Nat.le_of_ble_eq_true rfl) (lv0 := [(0, .ref b0), (1, .int (nI i)), (2, .int (nI o))]) rfl ?_
  intro K hini hret
  have g0 := (hN.2 0 (by decide)).1
  refine fk_iload_n 1 d_Md_place_0 rfl ?_
  refine fk_iconst (v := nI 1) d_Md_place_1 (by decide +kernel) ?_
  refine fk_icmp_lt (a := i) (b := 1) (by omega) (by omega) d_Md_place_2 rfl (fun h2t => ?_) (fun h2f => ?_)
  · omega
  · refine fk_iload_n 1 d_Md_place_5 rfl ?_
    refine fk_bipush (v := nI 127) d_Md_place_6 (by decide +kernel) ?_
    refine fk_icmp_gt (a := i) (b := 127) (by omega) (by omega) d_Md_place_8 rfl (fun h8t => ?_) (fun h8f => ?_)
    · omega
    · refine fk_iload_n 2 d_Md_place_11 rfl ?_
      refine fk_iconst (v := nI 1) d_Md_place_12 (by decide +kernel) ?_
      refine fk_icmp_lt (a := o) (b := 1) (by omega) (by omega) d_Md_place_13 rfl (fun h13t => ?_) (fun h13f => ?_)
      · omega
      · refine fk_iload_n 2 d_Md_place_16 rfl ?_
        refine fk_bipush (v := nI 127) d_Md_place_17 (by decide +kernel) ?_
        refine fk_icmp_le (a := o) (b := 127) (by omega) (by omega) d_Md_place_19 rfl (fun h19t => ?_) (fun h19f => ?_)
        · refine fk_iconst (v := nI 0) d_Md_place_24 (by decide +kernel) ?_
          refine fk_istore_n (lv' := [(0, .ref b0), (1, .int (nI i)), (2, .int (nI o)), (3, .int (nI 0))]) d_Md_place_25 rfl (Nat.le_of_ble_eq_true rfl) [1, 2, 3, 0] rfl ?_
          have L26 : ∀ (fuel : Nat) (k : Nat), (k ≤ mc 0) → (∀ j, j < k → (decide (mi j = i) && decide (mu j = o)) = false) → mc 0 - k < fuel → fk_V E (prog_8_method_14_code, fy_Md_place.cls, 4, fk_rm 0 0 0) K (0, 0) [(b0, .inr (6, [.int (nI mt), .ref b1, .ref b2, .ref b3, .ref b4, .ref b5, .ref b6, .ref b7, .ref b8, .ref b9, .int (nI mf), .ref b10, .ref b11, .ref b12, .int (nI my), .int (nI (Bool.toNat mw)), .ref b13, .ref b14, .ref b15])), fk_ai E b3 2 mc, fk_ai E b4 28 mi, fk_ai E b5 28 mu] 26 [(0, .ref b0), (1, .int (nI i)), (2, .int (nI o)), (3, .int (nI k))] [] := by
            intro fuel
            induction fuel with
            | zero => intro k _ _ hm; exact absurd hm (Nat.not_lt_zero _)
            | succ fuel ih =>
              intro k h1 h2 hm26
              have ih26 := ih
              clear ih
              refine fk_iload_n 3 d_Md_place_26 rfl ?_
              refine fk_aload_n 0 d_Md_place_27 rfl ?_
              refine fk_get 0 3 rfl rfl fh_Md (Nat.le_of_ble_eq_true rfl) fw_510 rfl d_Md_place_28 ?_
              refine fk_iconst (v := nI 0) d_Md_place_31 (by decide +kernel) ?_
              refine fk_ld_ai (i := 0) 1 rfl (by omega) (by decide) d_Md_place_32 ?_
              refine fk_icmp_ge (a := k) (b := (mc 0)) (by omega) (by omega) d_Md_place_33 rfl (fun h33t => ?_) (fun h33f => ?_)
              · have g2 : fs_any (fun z9 => decide (mi z9 = i) && decide (mu z9 = o)) (mc 0) = false := fs_any_f.mpr (fun j hj => h2 j (by omega))
                rw [hd] at g2; exact absurd g2 (by decide)
              · have g1 := hN.1 k (by omega)
                refine fk_aload_n 0 d_Md_place_36 rfl ?_
                refine fk_get 0 4 rfl rfl fh_Md (Nat.le_of_ble_eq_true rfl) fw_511 rfl d_Md_place_37 ?_
                refine fk_iload_n 3 d_Md_place_40 rfl ?_
                refine fk_ld_ai (i := k) 2 rfl (by omega) (by decide) d_Md_place_41 ?_
                refine fk_iload_n 1 d_Md_place_42 rfl ?_
                refine fk_icmp_ne (a := (mi k)) (b := i) (by omega) (by omega) d_Md_place_43 rfl (fun h43t => ?_) (fun h43f => ?_)
                · refine fk_iinc (j := 3) (lv' := [(0, .ref b0), (1, .int (nI i)), (2, .int (nI o)), (3, .int (nI (k + 1)))]) (k + 1) d_Md_place_59 rfl (nI_1 k) (Nat.le_of_ble_eq_true rfl) [1, 2, 3, 0] rfl ?_
                  refine fk_goto d_Md_place_62 rfl ?_
                  refine ih26 _ ?_ ?_ ?_
                  · first | omega | assumption | exact Nat.zero_le _
                  · refine fs_lt_s (f := fun j => decide (mi j = i) && decide (mu j = o)) h2 ?_
                    first | simp [h43t] | simp [h53t]
                  · omega
                · refine fk_aload_n 0 d_Md_place_46 rfl ?_
                  refine fk_get 0 5 rfl rfl fh_Md (Nat.le_of_ble_eq_true rfl) fw_512 rfl d_Md_place_47 ?_
                  refine fk_iload_n 3 d_Md_place_50 rfl ?_
                  refine fk_ld_ai (i := k) 3 rfl (by omega) (by decide) d_Md_place_51 ?_
                  refine fk_iload_n 2 d_Md_place_52 rfl ?_
                  refine fk_icmp_ne (a := (mu k)) (b := o) (by omega) (by omega) d_Md_place_53 rfl (fun h53t => ?_) (fun h53f => ?_)
                  · refine fk_iinc (j := 3) (lv' := [(0, .ref b0), (1, .int (nI i)), (2, .int (nI o)), (3, .int (nI (k + 1)))]) (k + 1) d_Md_place_59 rfl (nI_1 k) (Nat.le_of_ble_eq_true rfl) [1, 2, 3, 0] rfl ?_
                    refine fk_goto d_Md_place_62 rfl ?_
                    refine ih26 _ ?_ ?_ ?_
                    · first | omega | assumption | exact Nat.zero_le _
                    · refine fs_lt_s (f := fun j => decide (mi j = i) && decide (mu j = o)) h2 ?_
                      first | simp [h43t] | simp [h53t]
                    · omega
                  · refine fk_bipush (v := -4) d_Md_place_56 (by decide +kernel) ?_
                    exact hret (0, 0) _ 58 _ () d_Md_place_58 (trivial) (rfl)
          refine L26 _ _ ?_ ?_ (Nat.lt_succ_self _)
          · first | omega | assumption | exact Nat.zero_le _
          · exact fs_lt_0
        · omega
set_option maxRecDepth 20000 in
set_option maxHeartbeats 4000000 in
theorem cD_placeF (E : fk_E) (b0 : Nat) (b1 : Nat) (b2 : Nat) (b3 : Nat) (b4 : Nat) (b5 : Nat) (b6 : Nat) (b7 : Nat) (b8 : Nat) (b9 : Nat) (b10 : Nat) (b11 : Nat) (b12 : Nat) (b13 : Nat) (b14 : Nat) (b15 : Nat) (mt : Nat) (mf : Nat) (my : Nat) (mw : Bool) (mc : Nat → Nat) (mi : Nat → Nat) (mu : Nat → Nat) (mfi : Nat → Nat) (mla : Nat → Nat) (i : Nat) (o : Nat) (hN : fr_N mc mi mu mfi mla) (hi : 0 < i ∧ i < 128) (ho : 0 < o ∧ o < 128) (hd : fs_any (fun z9 => decide (mi z9 = i) && decide (mu z9 = o)) (mc 0) = false) (hc : mc 0 = 14) : fk_C E fy_Md_place prog_8_method_14_code 4 (some .int) 0 0 0 [.ref b0, .int (nI i), .int (nI o)] [(b0, .inr (6, [.int (nI mt), .ref b1, .ref b2, .ref b3, .ref b4, .ref b5, .ref b6, .ref b7, .ref b8, .ref b9, .int (nI mf), .ref b10, .ref b11, .ref b12, .int (nI my), .int (nI (Bool.toNat mw)), .ref b13, .ref b14, .ref b15])), fk_ai E b3 2 mc, fk_ai E b4 28 mi, fk_ai E b5 28 mu] (S := Unit) (fun _ => some (.int (-2))) (fun _ => True) (fun _ => [(b0, .inr (6, [.int (nI mt), .ref b1, .ref b2, .ref b3, .ref b4, .ref b5, .ref b6, .ref b7, .ref b8, .ref b9, .int (nI mf), .ref b10, .ref b11, .ref b12, .int (nI my), .int (nI (Bool.toNat mw)), .ref b13, .ref b14, .ref b15])), fk_ai E b3 2 mc, fk_ai E b4 28 mi, fk_ai E b5 28 mu]) := by
  refine fk_enterI (v := fun _ => (-2)) (by decide) (Nat.le_of_ble_eq_true rfl) (lv0 := [(0, .ref b0), (1, .int (nI i)), (2, .int (nI o))]) rfl ?_
  intro K hini hret
  have g0 := (hN.2 0 (by decide)).1
  refine fk_iload_n 1 d_Md_place_0 rfl ?_
  refine fk_iconst (v := nI 1) d_Md_place_1 (by decide +kernel) ?_
  refine fk_icmp_lt (a := i) (b := 1) (by omega) (by omega) d_Md_place_2 rfl (fun h2t => ?_) (fun h2f => ?_)
  · omega
  · refine fk_iload_n 1 d_Md_place_5 rfl ?_
    refine fk_bipush (v := nI 127) d_Md_place_6 (by decide +kernel) ?_
    refine fk_icmp_gt (a := i) (b := 127) (by omega) (by omega) d_Md_place_8 rfl (fun h8t => ?_) (fun h8f => ?_)
    · omega
    · refine fk_iload_n 2 d_Md_place_11 rfl ?_
      refine fk_iconst (v := nI 1) d_Md_place_12 (by decide +kernel) ?_
      refine fk_icmp_lt (a := o) (b := 1) (by omega) (by omega) d_Md_place_13 rfl (fun h13t => ?_) (fun h13f => ?_)
      · omega
      · refine fk_iload_n 2 d_Md_place_16 rfl ?_
        refine fk_bipush (v := nI 127) d_Md_place_17 (by decide +kernel) ?_
        refine fk_icmp_le (a := o) (b := 127) (by omega) (by omega) d_Md_place_19 rfl (fun h19t => ?_) (fun h19f => ?_)
        · refine fk_iconst (v := nI 0) d_Md_place_24 (by decide +kernel) ?_
          refine fk_istore_n (lv' := [(0, .ref b0), (1, .int (nI i)), (2, .int (nI o)), (3, .int (nI 0))]) d_Md_place_25 rfl (Nat.le_of_ble_eq_true rfl) [1, 2, 3, 0] rfl ?_
          have L26 : ∀ (fuel : Nat) (k : Nat), (k ≤ mc 0) → (∀ j, j < k → (decide (mi j = i) && decide (mu j = o)) = false) → mc 0 - k < fuel → fk_V E (prog_8_method_14_code, fy_Md_place.cls, 4, fk_rm 0 0 0) K (0, 0) [(b0, .inr (6, [.int (nI mt), .ref b1, .ref b2, .ref b3, .ref b4, .ref b5, .ref b6, .ref b7, .ref b8, .ref b9, .int (nI mf), .ref b10, .ref b11, .ref b12, .int (nI my), .int (nI (Bool.toNat mw)), .ref b13, .ref b14, .ref b15])), fk_ai E b3 2 mc, fk_ai E b4 28 mi, fk_ai E b5 28 mu] 26 [(0, .ref b0), (1, .int (nI i)), (2, .int (nI o)), (3, .int (nI k))] [] := by
            intro fuel
            induction fuel with
            | zero => intro k _ _ hm; exact absurd hm (Nat.not_lt_zero _)
            | succ fuel ih =>
              intro k h1 h2 hm26
              have ih26 := ih
              clear ih
              refine fk_iload_n 3 d_Md_place_26 rfl ?_
              refine fk_aload_n 0 d_Md_place_27 rfl ?_
              refine fk_get 0 3 rfl rfl fh_Md (Nat.le_of_ble_eq_true rfl) fw_510 rfl d_Md_place_28 ?_
              refine fk_iconst (v := nI 0) d_Md_place_31 (by decide +kernel) ?_
              refine fk_ld_ai (i := 0) 1 rfl (by omega) (by decide) d_Md_place_32 ?_
              refine fk_icmp_ge (a := k) (b := (mc 0)) (by omega) (by omega) d_Md_place_33 rfl (fun h33t => ?_) (fun h33f => ?_)
              · have g2 := fs_any_f.mpr (fun j hj => h2 j (show j < k by omega))
                refine fk_aload_n 0 d_Md_place_65 rfl ?_
                refine fk_get 0 3 rfl rfl fh_Md (Nat.le_of_ble_eq_true rfl) fw_510 rfl d_Md_place_66 ?_
                refine fk_iconst (v := nI 0) d_Md_place_69 (by decide +kernel) ?_
                refine fk_ld_ai (i := 0) 1 rfl (by omega) (by decide) d_Md_place_70 ?_
                refine fk_bipush (v := nI 14) d_Md_place_71 (by decide +kernel) ?_
                refine fk_icmp_ne (a := (mc 0)) (b := 14) (by omega) (by omega) d_Md_place_73 rfl (fun h73t => ?_) (fun h73f => ?_)
                · exact absurd hc h73t
                · refine fk_bipush (v := -2) d_Md_place_76 (by decide +kernel) ?_
                  exact hret (0, 0) _ 78 _ () d_Md_place_78 (trivial) (rfl)
              · have g1 := hN.1 k (by omega)
                refine fk_aload_n 0 d_Md_place_36 rfl ?_
                refine fk_get 0 4 rfl rfl fh_Md (Nat.le_of_ble_eq_true rfl) fw_511 rfl d_Md_place_37 ?_
                refine fk_iload_n 3 d_Md_place_40 rfl ?_
                refine fk_ld_ai (i := k) 2 rfl (by omega) (by decide) d_Md_place_41 ?_
                refine fk_iload_n 1 d_Md_place_42 rfl ?_
                refine fk_icmp_ne (a := (mi k)) (b := i) (by omega) (by omega) d_Md_place_43 rfl (fun h43t => ?_) (fun h43f => ?_)
                · refine fk_iinc (j := 3) (lv' := [(0, .ref b0), (1, .int (nI i)), (2, .int (nI o)), (3, .int (nI (k + 1)))]) (k + 1) d_Md_place_59 rfl (nI_1 k) (Nat.le_of_ble_eq_true rfl) [1, 2, 3, 0] rfl ?_
                  refine fk_goto d_Md_place_62 rfl ?_
                  refine ih26 _ ?_ ?_ ?_
                  · first | omega | assumption | exact Nat.zero_le _
                  · refine fs_lt_s (f := fun j => decide (mi j = i) && decide (mu j = o)) h2 ?_
                    first | simp [h43t] | simp [h53t]
                  · omega
                · refine fk_aload_n 0 d_Md_place_46 rfl ?_
                  refine fk_get 0 5 rfl rfl fh_Md (Nat.le_of_ble_eq_true rfl) fw_512 rfl d_Md_place_47 ?_
                  refine fk_iload_n 3 d_Md_place_50 rfl ?_
                  refine fk_ld_ai (i := k) 3 rfl (by omega) (by decide) d_Md_place_51 ?_
                  refine fk_iload_n 2 d_Md_place_52 rfl ?_
                  refine fk_icmp_ne (a := (mu k)) (b := o) (by omega) (by omega) d_Md_place_53 rfl (fun h53t => ?_) (fun h53f => ?_)
                  · refine fk_iinc (j := 3) (lv' := [(0, .ref b0), (1, .int (nI i)), (2, .int (nI o)), (3, .int (nI (k + 1)))]) (k + 1) d_Md_place_59 rfl (nI_1 k) (Nat.le_of_ble_eq_true rfl) [1, 2, 3, 0] rfl ?_
                    refine fk_goto d_Md_place_62 rfl ?_
                    refine ih26 _ ?_ ?_ ?_
                    · first | omega | assumption | exact Nat.zero_le _
                    · refine fs_lt_s (f := fun j => decide (mi j = i) && decide (mu j = o)) h2 ?_
                      first | simp [h43t] | simp [h53t]
                    · omega
                  · exact absurd (fs_any_t (n := mc 0) (j := k) (by omega) (f := fun j => decide (mi j = i) && decide (mu j = o)) (by simp [h43f, h53f])) (by rw [hd]; decide)
          refine L26 _ _ ?_ ?_ (Nat.lt_succ_self _)
          · first | omega | assumption | exact Nat.zero_le _
          · exact fs_lt_0
        · omega
set_option maxRecDepth 20000 in
set_option maxHeartbeats 4000000 in
theorem cD_place (E : fk_E) (b0 : Nat) (b1 : Nat) (b2 : Nat) (b3 : Nat) (b4 : Nat) (b5 : Nat) (b6 : Nat) (b7 : Nat) (b8 : Nat) (b9 : Nat) (b10 : Nat) (b11 : Nat) (b12 : Nat) (b13 : Nat) (b14 : Nat) (b15 : Nat) (mt : Nat) (mf : Nat) (my : Nat) (mw : Bool) (mc : Nat → Nat) (mi : Nat → Nat) (mu : Nat → Nat) (mfi : Nat → Nat) (mla : Nat → Nat) (i : Nat) (o : Nat) (hN : fr_N mc mi mu mfi mla) (hi : 0 < i ∧ i < 128) (ho : 0 < o ∧ o < 128) (hd : fs_any (fun z9 => decide (mi z9 = i) && decide (mu z9 = o)) (mc 0) = false) (hc : mc 0 < 14) : fk_C E fy_Md_place prog_8_method_14_code 4 (some .int) 0 0 0 [.ref b0, .int (nI i), .int (nI o)] [(b0, .inr (6, [.int (nI mt), .ref b1, .ref b2, .ref b3, .ref b4, .ref b5, .ref b6, .ref b7, .ref b8, .ref b9, .int (nI mf), .ref b10, .ref b11, .ref b12, .int (nI my), .int (nI (Bool.toNat mw)), .ref b13, .ref b14, .ref b15])), fk_ai E b3 2 mc, fk_ai E b4 28 mi, fk_ai E b5 28 mu] (S := Unit) (fun _ => some (.int (nI (mc 0)))) (fun _ => True) (fun _ => [(b0, .inr (6, [.int (nI mt), .ref b1, .ref b2, .ref b3, .ref b4, .ref b5, .ref b6, .ref b7, .ref b8, .ref b9, .int (nI mf), .ref b10, .ref b11, .ref b12, .int (nI my), .int (nI (Bool.toNat mw)), .ref b13, .ref b14, .ref b15])), fk_ai E b3 2 (va_up mc 0 (mc 0 + 1)), fk_ai E b4 28 (va_up mi (mc 0) i), fk_ai E b5 28 (va_up mu (mc 0) o)]) := by
  refine fk_enterI (v := fun _ => (nI (mc 0))) (by decide) (Nat.le_of_ble_eq_true rfl) (lv0 := [(0, .ref b0), (1, .int (nI i)), (2, .int (nI o))]) rfl ?_
  intro K hini hret
  have g0 := (hN.2 0 (by decide)).1
  refine fk_iload_n 1 d_Md_place_0 rfl ?_
  refine fk_iconst (v := nI 1) d_Md_place_1 (by decide +kernel) ?_
  refine fk_icmp_lt (a := i) (b := 1) (by omega) (by omega) d_Md_place_2 rfl (fun h2t => ?_) (fun h2f => ?_)
  · omega
  · refine fk_iload_n 1 d_Md_place_5 rfl ?_
    refine fk_bipush (v := nI 127) d_Md_place_6 (by decide +kernel) ?_
    refine fk_icmp_gt (a := i) (b := 127) (by omega) (by omega) d_Md_place_8 rfl (fun h8t => ?_) (fun h8f => ?_)
    · omega
    · refine fk_iload_n 2 d_Md_place_11 rfl ?_
      refine fk_iconst (v := nI 1) d_Md_place_12 (by decide +kernel) ?_
      refine fk_icmp_lt (a := o) (b := 1) (by omega) (by omega) d_Md_place_13 rfl (fun h13t => ?_) (fun h13f => ?_)
      · omega
      · refine fk_iload_n 2 d_Md_place_16 rfl ?_
        refine fk_bipush (v := nI 127) d_Md_place_17 (by decide +kernel) ?_
        refine fk_icmp_le (a := o) (b := 127) (by omega) (by omega) d_Md_place_19 rfl (fun h19t => ?_) (fun h19f => ?_)
        · refine fk_iconst (v := nI 0) d_Md_place_24 (by decide +kernel) ?_
          refine fk_istore_n (lv' := [(0, .ref b0), (1, .int (nI i)), (2, .int (nI o)), (3, .int (nI 0))]) d_Md_place_25 rfl (Nat.le_of_ble_eq_true rfl) [1, 2, 3, 0] rfl ?_
          have L26 : ∀ (fuel : Nat) (k : Nat), (k ≤ mc 0) → (∀ j, j < k → (decide (mi j = i) && decide (mu j = o)) = false) → mc 0 - k < fuel → fk_V E (prog_8_method_14_code, fy_Md_place.cls, 4, fk_rm 0 0 0) K (0, 0) [(b0, .inr (6, [.int (nI mt), .ref b1, .ref b2, .ref b3, .ref b4, .ref b5, .ref b6, .ref b7, .ref b8, .ref b9, .int (nI mf), .ref b10, .ref b11, .ref b12, .int (nI my), .int (nI (Bool.toNat mw)), .ref b13, .ref b14, .ref b15])), fk_ai E b3 2 mc, fk_ai E b4 28 mi, fk_ai E b5 28 mu] 26 [(0, .ref b0), (1, .int (nI i)), (2, .int (nI o)), (3, .int (nI k))] [] := by
            intro fuel
            induction fuel with
            | zero => intro k _ _ hm; exact absurd hm (Nat.not_lt_zero _)
            | succ fuel ih =>
              intro k h1 h2 hm26
              have ih26 := ih
              clear ih
              refine fk_iload_n 3 d_Md_place_26 rfl ?_
              refine fk_aload_n 0 d_Md_place_27 rfl ?_
              refine fk_get 0 3 rfl rfl fh_Md (Nat.le_of_ble_eq_true rfl) fw_510 rfl d_Md_place_28 ?_
              refine fk_iconst (v := nI 0) d_Md_place_31 (by decide +kernel) ?_
              refine fk_ld_ai (i := 0) 1 rfl (by omega) (by decide) d_Md_place_32 ?_
              refine fk_icmp_ge (a := k) (b := (mc 0)) (by omega) (by omega) d_Md_place_33 rfl (fun h33t => ?_) (fun h33f => ?_)
              · have g2 := fs_any_f.mpr (fun j hj => h2 j (show j < k by omega))
                refine fk_aload_n 0 d_Md_place_65 rfl ?_
                refine fk_get 0 3 rfl rfl fh_Md (Nat.le_of_ble_eq_true rfl) fw_510 rfl d_Md_place_66 ?_
                refine fk_iconst (v := nI 0) d_Md_place_69 (by decide +kernel) ?_
                refine fk_ld_ai (i := 0) 1 rfl (by omega) (by decide) d_Md_place_70 ?_
                refine fk_bipush (v := nI 14) d_Md_place_71 (by decide +kernel) ?_
                refine fk_icmp_ne (a := (mc 0)) (b := 14) (by omega) (by omega) d_Md_place_73 rfl (fun h73t => ?_) (fun h73f => ?_)
                · refine fk_aload_n 0 d_Md_place_79 rfl ?_
                  refine fk_get 0 4 rfl rfl fh_Md (Nat.le_of_ble_eq_true rfl) fw_511 rfl d_Md_place_80 ?_
                  refine fk_aload_n 0 d_Md_place_83 rfl ?_
                  refine fk_get 0 3 rfl rfl fh_Md (Nat.le_of_ble_eq_true rfl) fw_510 rfl d_Md_place_84 ?_
                  refine fk_iconst (v := nI 0) d_Md_place_87 (by decide +kernel) ?_
                  refine fk_ld_ai (i := 0) 1 rfl (by omega) (by decide) d_Md_place_88 ?_
                  refine fk_iload_n 1 d_Md_place_89 rfl ?_
                  refine fk_st_ai (i := (mc 0)) (x := i) (w' := [(b0, .inr (6, [.int (nI mt), .ref b1, .ref b2, .ref b3, .ref b4, .ref b5, .ref b6, .ref b7, .ref b8, .ref b9, .int (nI mf), .ref b10, .ref b11, .ref b12, .int (nI my), .int (nI (Bool.toNat mw)), .ref b13, .ref b14, .ref b15])), fk_ai E b3 2 mc, fk_ai E b4 28 (va_up mi (mc 0) i), fk_ai E b5 28 mu]) 2 rfl (by omega) (by decide) d_Md_place_90 rfl ?_
                  refine fk_aload_n 0 d_Md_place_91 rfl ?_
                  refine fk_get 0 5 rfl rfl fh_Md (Nat.le_of_ble_eq_true rfl) fw_512 rfl d_Md_place_92 ?_
                  refine fk_aload_n 0 d_Md_place_95 rfl ?_
                  refine fk_get 0 3 rfl rfl fh_Md (Nat.le_of_ble_eq_true rfl) fw_510 rfl d_Md_place_96 ?_
                  refine fk_iconst (v := nI 0) d_Md_place_99 (by decide +kernel) ?_
                  refine fk_ld_ai (i := 0) 1 rfl (by omega) (by decide) d_Md_place_100 ?_
                  refine fk_iload_n 2 d_Md_place_101 rfl ?_
                  refine fk_st_ai (i := (mc 0)) (x := o) (w' := [(b0, .inr (6, [.int (nI mt), .ref b1, .ref b2, .ref b3, .ref b4, .ref b5, .ref b6, .ref b7, .ref b8, .ref b9, .int (nI mf), .ref b10, .ref b11, .ref b12, .int (nI my), .int (nI (Bool.toNat mw)), .ref b13, .ref b14, .ref b15])), fk_ai E b3 2 mc, fk_ai E b4 28 (va_up mi (mc 0) i), fk_ai E b5 28 (va_up mu (mc 0) o)]) 3 rfl (by omega) (by decide) d_Md_place_102 rfl ?_
                  refine fk_aload_n 0 d_Md_place_103 rfl ?_
                  refine fk_get 0 3 rfl rfl fh_Md (Nat.le_of_ble_eq_true rfl) fw_510 rfl d_Md_place_104 ?_
                  refine fk_iconst (v := nI 0) d_Md_place_107 (by decide +kernel) ?_
                  refine fk_dup2 d_Md_place_108 rfl rfl ?_
                  refine fk_ld_ai (i := 0) 1 rfl (by omega) (by decide) d_Md_place_109 ?_
                  refine fk_iconst (v := nI 1) d_Md_place_110 (by decide +kernel) ?_
                  refine fk_iadd (a := (mc 0)) (b := 1) d_Md_place_111 ?_
                  refine fk_st_ai (i := 0) (x := ((mc 0) + 1)) (w' := [(b0, .inr (6, [.int (nI mt), .ref b1, .ref b2, .ref b3, .ref b4, .ref b5, .ref b6, .ref b7, .ref b8, .ref b9, .int (nI mf), .ref b10, .ref b11, .ref b12, .int (nI my), .int (nI (Bool.toNat mw)), .ref b13, .ref b14, .ref b15])), fk_ai E b3 2 (va_up mc 0 ((mc 0) + 1)), fk_ai E b4 28 (va_up mi (mc 0) i), fk_ai E b5 28 (va_up mu (mc 0) o)]) 1 rfl (by omega) (by decide) d_Md_place_112 rfl ?_
                  refine fk_aload_n 0 d_Md_place_113 rfl ?_
                  refine fk_get 0 3 rfl rfl fh_Md (Nat.le_of_ble_eq_true rfl) fw_510 rfl d_Md_place_114 ?_
                  refine fk_iconst (v := nI 0) d_Md_place_117 (by decide +kernel) ?_
                  refine fk_ld_ai (i := 0) 1 rfl (by omega) (by decide) d_Md_place_118 ?_
                  refine fk_top (congrArg nI (va_up_self _ _ _)) ?_
                  refine fk_iconst (v := nI 1) d_Md_place_119 (by decide +kernel) ?_
                  refine fk_isub (a := ((mc 0) + 1)) (b := 1) d_Md_place_120 (by omega) ?_
                  refine fk_top (congrArg nI (show ((mc 0) + 1) - 1 = mc 0 from by first | omega | simp_all)) ?_
                  exact hret (0, 0) _ 121 _ () d_Md_place_121 (trivial) (rfl)
                · omega
              · have g1 := hN.1 k (by omega)
                refine fk_aload_n 0 d_Md_place_36 rfl ?_
                refine fk_get 0 4 rfl rfl fh_Md (Nat.le_of_ble_eq_true rfl) fw_511 rfl d_Md_place_37 ?_
                refine fk_iload_n 3 d_Md_place_40 rfl ?_
                refine fk_ld_ai (i := k) 2 rfl (by omega) (by decide) d_Md_place_41 ?_
                refine fk_iload_n 1 d_Md_place_42 rfl ?_
                refine fk_icmp_ne (a := (mi k)) (b := i) (by omega) (by omega) d_Md_place_43 rfl (fun h43t => ?_) (fun h43f => ?_)
                · refine fk_iinc (j := 3) (lv' := [(0, .ref b0), (1, .int (nI i)), (2, .int (nI o)), (3, .int (nI (k + 1)))]) (k + 1) d_Md_place_59 rfl (nI_1 k) (Nat.le_of_ble_eq_true rfl) [1, 2, 3, 0] rfl ?_
                  refine fk_goto d_Md_place_62 rfl ?_
                  refine ih26 _ ?_ ?_ ?_
                  · first | omega | assumption | exact Nat.zero_le _
                  · refine fs_lt_s (f := fun j => decide (mi j = i) && decide (mu j = o)) h2 ?_
                    first | simp [h43t] | simp [h53t]
                  · omega
                · refine fk_aload_n 0 d_Md_place_46 rfl ?_
                  refine fk_get 0 5 rfl rfl fh_Md (Nat.le_of_ble_eq_true rfl) fw_512 rfl d_Md_place_47 ?_
                  refine fk_iload_n 3 d_Md_place_50 rfl ?_
                  refine fk_ld_ai (i := k) 3 rfl (by omega) (by decide) d_Md_place_51 ?_
                  refine fk_iload_n 2 d_Md_place_52 rfl ?_
                  refine fk_icmp_ne (a := (mu k)) (b := o) (by omega) (by omega) d_Md_place_53 rfl (fun h53t => ?_) (fun h53f => ?_)
                  · refine fk_iinc (j := 3) (lv' := [(0, .ref b0), (1, .int (nI i)), (2, .int (nI o)), (3, .int (nI (k + 1)))]) (k + 1) d_Md_place_59 rfl (nI_1 k) (Nat.le_of_ble_eq_true rfl) [1, 2, 3, 0] rfl ?_
                    refine fk_goto d_Md_place_62 rfl ?_
                    refine ih26 _ ?_ ?_ ?_
                    · first | omega | assumption | exact Nat.zero_le _
                    · refine fs_lt_s (f := fun j => decide (mi j = i) && decide (mu j = o)) h2 ?_
                      first | simp [h43t] | simp [h53t]
                    · omega
                  · exact absurd (fs_any_t (n := mc 0) (j := k) (by omega) (f := fun j => decide (mi j = i) && decide (mu j = o)) (by simp [h43f, h53f])) (by rw [hd]; decide)
          refine L26 _ _ ?_ ?_ (Nat.lt_succ_self _)
          · first | omega | assumption | exact Nat.zero_le _
          · exact fs_lt_0
        · omega
set_option maxRecDepth 20000 in
set_option maxHeartbeats 4000000 in
theorem cD_placeO (E : fk_E) (b0 : Nat) (b1 : Nat) (b2 : Nat) (b3 : Nat) (b4 : Nat) (b5 : Nat) (b6 : Nat) (b7 : Nat) (b8 : Nat) (b9 : Nat) (b10 : Nat) (b11 : Nat) (b12 : Nat) (b13 : Nat) (b14 : Nat) (b15 : Nat) (mt : Nat) (mf : Nat) (my : Nat) (mw : Bool) (mc : Nat → Nat) (mi : Nat → Nat) (mu : Nat → Nat) (mfi : Nat → Nat) (mla : Nat → Nat) (i : Nat) (o : Nat) (h : ¬ ((0 < i ∧ i < 128) ∧ 0 < o ∧ o < 128)) (hi : i < 2 ^ 31) (ho : o < 2 ^ 31) : fk_C E fy_Md_place prog_8_method_14_code 4 (some .int) 0 0 0 [.ref b0, .int (nI i), .int (nI o)] [(b0, .inr (6, [.int (nI mt), .ref b1, .ref b2, .ref b3, .ref b4, .ref b5, .ref b6, .ref b7, .ref b8, .ref b9, .int (nI mf), .ref b10, .ref b11, .ref b12, .int (nI my), .int (nI (Bool.toNat mw)), .ref b13, .ref b14, .ref b15])), fk_ai E b3 2 mc, fk_ai E b4 28 mi, fk_ai E b5 28 mu] (S := Unit) (fun _ => some (.int (nI 0 - 1))) (fun _ => True) (fun _ => [(b0, .inr (6, [.int (nI mt), .ref b1, .ref b2, .ref b3, .ref b4, .ref b5, .ref b6, .ref b7, .ref b8, .ref b9, .int (nI mf), .ref b10, .ref b11, .ref b12, .int (nI my), .int (nI (Bool.toNat mw)), .ref b13, .ref b14, .ref b15])), fk_ai E b3 2 mc, fk_ai E b4 28 mi, fk_ai E b5 28 mu]) := by
  refine fk_enterI (v := fun _ => (nI 0 - 1)) (by decide) (Nat.le_of_ble_eq_true rfl) (lv0 := [(0, .ref b0), (1, .int (nI i)), (2, .int (nI o))]) rfl ?_
  intro K hini hret
  refine fk_iload_n 1 d_Md_place_0 rfl ?_
  refine fk_iconst (v := nI 1) d_Md_place_1 (by decide +kernel) ?_
  refine fk_icmp_lt (a := i) (b := 1) (by omega) (by omega) d_Md_place_2 rfl (fun h2t => ?_) (fun h2f => ?_)
  · refine fk_iconst (v := nI 0 - 1) d_Md_place_22 (by decide +kernel) ?_
    exact hret (0, 0) _ 23 _ () d_Md_place_23 (trivial) (rfl)
  · refine fk_iload_n 1 d_Md_place_5 rfl ?_
    refine fk_bipush (v := nI 127) d_Md_place_6 (by decide +kernel) ?_
    refine fk_icmp_gt (a := i) (b := 127) (by omega) (by omega) d_Md_place_8 rfl (fun h8t => ?_) (fun h8f => ?_)
    · refine fk_iconst (v := nI 0 - 1) d_Md_place_22 (by decide +kernel) ?_
      exact hret (0, 0) _ 23 _ () d_Md_place_23 (trivial) (rfl)
    · refine fk_iload_n 2 d_Md_place_11 rfl ?_
      refine fk_iconst (v := nI 1) d_Md_place_12 (by decide +kernel) ?_
      refine fk_icmp_lt (a := o) (b := 1) (by omega) (by omega) d_Md_place_13 rfl (fun h13t => ?_) (fun h13f => ?_)
      · refine fk_iconst (v := nI 0 - 1) d_Md_place_22 (by decide +kernel) ?_
        exact hret (0, 0) _ 23 _ () d_Md_place_23 (trivial) (rfl)
      · refine fk_iload_n 2 d_Md_place_16 rfl ?_
        refine fk_bipush (v := nI 127) d_Md_place_17 (by decide +kernel) ?_
        refine fk_icmp_le (a := o) (b := 127) (by omega) (by omega) d_Md_place_19 rfl (fun h19t => ?_) (fun h19f => ?_)
        · omega
        · refine fk_iconst (v := nI 0 - 1) d_Md_place_22 (by decide +kernel) ?_
          exact hret (0, 0) _ 23 _ () d_Md_place_23 (trivial) (rfl)
set_option maxRecDepth 20000 in
set_option maxHeartbeats 4000000 in
theorem cD_placeM (E : fk_E) (b0 : Nat) (b1 : Nat) (b2 : Nat) (b3 : Nat) (b4 : Nat) (b5 : Nat) (b6 : Nat) (b7 : Nat) (b8 : Nat) (b9 : Nat) (b10 : Nat) (b11 : Nat) (b12 : Nat) (b13 : Nat) (b14 : Nat) (b15 : Nat) (mt : Nat) (mf : Nat) (my : Nat) (mw : Bool) (mc : Nat → Nat) (mi : Nat → Nat) (mu : Nat → Nat) (mfi : Nat → Nat) (mla : Nat → Nat) (x : Int32) (y : Int32) (hx : x < 0) : fk_C E fy_Md_place prog_8_method_14_code 4 (some .int) 0 0 0 [.ref b0, .int x, .int y] [(b0, .inr (6, [.int (nI mt), .ref b1, .ref b2, .ref b3, .ref b4, .ref b5, .ref b6, .ref b7, .ref b8, .ref b9, .int (nI mf), .ref b10, .ref b11, .ref b12, .int (nI my), .int (nI (Bool.toNat mw)), .ref b13, .ref b14, .ref b15])), fk_ai E b3 2 mc, fk_ai E b4 28 mi, fk_ai E b5 28 mu] (S := Unit) (fun _ => some (.int (nI 0 - 1))) (fun _ => True) (fun _ => [(b0, .inr (6, [.int (nI mt), .ref b1, .ref b2, .ref b3, .ref b4, .ref b5, .ref b6, .ref b7, .ref b8, .ref b9, .int (nI mf), .ref b10, .ref b11, .ref b12, .int (nI my), .int (nI (Bool.toNat mw)), .ref b13, .ref b14, .ref b15])), fk_ai E b3 2 mc, fk_ai E b4 28 mi, fk_ai E b5 28 mu]) := by
  refine fk_enterI (v := fun _ => (nI 0 - 1)) (by decide) (Nat.le_of_ble_eq_true rfl) (lv0 := [(0, .ref b0), (1, .int x), (2, .int y)]) rfl ?_
  intro K hini hret
  refine fk_iload_n 1 d_Md_place_0 rfl ?_
  refine fk_iconst (v := nI 1) d_Md_place_1 (by decide +kernel) ?_
  refine fk_icmp_ltR d_Md_place_2 rfl (fun h2t => ?_) (fun h2f => ?_)
  · refine fk_iconst (v := nI 0 - 1) d_Md_place_22 (by decide +kernel) ?_
    exact hret (0, 0) _ 23 _ () d_Md_place_23 (trivial) (rfl)
  · exact absurd (fn_neg1 hx) h2f
set_option maxRecDepth 20000 in
set_option maxHeartbeats 4000000 in
theorem cD_placeN (E : fk_E) (b0 : Nat) (b1 : Nat) (b2 : Nat) (b3 : Nat) (b4 : Nat) (b5 : Nat) (b6 : Nat) (b7 : Nat) (b8 : Nat) (b9 : Nat) (b10 : Nat) (b11 : Nat) (b12 : Nat) (b13 : Nat) (b14 : Nat) (b15 : Nat) (mt : Nat) (mf : Nat) (my : Nat) (mw : Bool) (mc : Nat → Nat) (mi : Nat → Nat) (mu : Nat → Nat) (mfi : Nat → Nat) (mla : Nat → Nat) (i : Nat) (y : Int32) (hi : i < 2 ^ 31) (hx : y < 0) : fk_C E fy_Md_place prog_8_method_14_code 4 (some .int) 0 0 0 [.ref b0, .int (nI i), .int y] [(b0, .inr (6, [.int (nI mt), .ref b1, .ref b2, .ref b3, .ref b4, .ref b5, .ref b6, .ref b7, .ref b8, .ref b9, .int (nI mf), .ref b10, .ref b11, .ref b12, .int (nI my), .int (nI (Bool.toNat mw)), .ref b13, .ref b14, .ref b15])), fk_ai E b3 2 mc, fk_ai E b4 28 mi, fk_ai E b5 28 mu] (S := Unit) (fun _ => some (.int (nI 0 - 1))) (fun _ => True) (fun _ => [(b0, .inr (6, [.int (nI mt), .ref b1, .ref b2, .ref b3, .ref b4, .ref b5, .ref b6, .ref b7, .ref b8, .ref b9, .int (nI mf), .ref b10, .ref b11, .ref b12, .int (nI my), .int (nI (Bool.toNat mw)), .ref b13, .ref b14, .ref b15])), fk_ai E b3 2 mc, fk_ai E b4 28 mi, fk_ai E b5 28 mu]) := by
  refine fk_enterI (v := fun _ => (nI 0 - 1)) (by decide) (Nat.le_of_ble_eq_true rfl) (lv0 := [(0, .ref b0), (1, .int (nI i)), (2, .int y)]) rfl ?_
  intro K hini hret
  refine fk_iload_n 1 d_Md_place_0 rfl ?_
  refine fk_iconst (v := nI 1) d_Md_place_1 (by decide +kernel) ?_
  refine fk_icmp_lt (a := i) (b := 1) (by omega) (by omega) d_Md_place_2 rfl (fun h2t => ?_) (fun h2f => ?_)
  · refine fk_iconst (v := nI 0 - 1) d_Md_place_22 (by decide +kernel) ?_
    exact hret (0, 0) _ 23 _ () d_Md_place_23 (trivial) (rfl)
  · refine fk_iload_n 1 d_Md_place_5 rfl ?_
    refine fk_bipush (v := nI 127) d_Md_place_6 (by decide +kernel) ?_
    refine fk_icmp_gt (a := i) (b := 127) (by omega) (by omega) d_Md_place_8 rfl (fun h8t => ?_) (fun h8f => ?_)
    · refine fk_iconst (v := nI 0 - 1) d_Md_place_22 (by decide +kernel) ?_
      exact hret (0, 0) _ 23 _ () d_Md_place_23 (trivial) (rfl)
    · refine fk_iload_n 2 d_Md_place_11 rfl ?_
      refine fk_iconst (v := nI 1) d_Md_place_12 (by decide +kernel) ?_
      refine fk_icmp_ltR d_Md_place_13 rfl (fun h13t => ?_) (fun h13f => ?_)
      · refine fk_iconst (v := nI 0 - 1) d_Md_place_22 (by decide +kernel) ?_
        exact hret (0, 0) _ 23 _ () d_Md_place_23 (trivial) (rfl)
      · exact absurd (fn_neg1 hx) h13f
theorem d_Md_ends_0 : decode prog_8_method_15_code 0 = .ok (.iload_n 1, 1) := by decide +kernel
theorem d_Md_ends_1 : decode prog_8_method_15_code 1 = .ok (.ifCond .lt 19, 3) := by decide +kernel
theorem d_Md_ends_4 : decode prog_8_method_15_code 4 = .ok (.iload_n 1, 1) := by decide +kernel
theorem d_Md_ends_5 : decode prog_8_method_15_code 5 = .ok (.bipush 127, 2) := by decide +kernel
theorem d_Md_ends_7 : decode prog_8_method_15_code 7 = .ok (.if_icmp .gt 13, 3) := by decide +kernel
theorem d_Md_ends_10 : decode prog_8_method_15_code 10 = .ok (.iload_n 2, 1) := by decide +kernel
theorem d_Md_ends_11 : decode prog_8_method_15_code 11 = .ok (.ifCond .lt 9, 3) := by decide +kernel
theorem d_Md_ends_14 : decode prog_8_method_15_code 14 = .ok (.iload_n 2, 1) := by decide +kernel
theorem d_Md_ends_15 : decode prog_8_method_15_code 15 = .ok (.bipush 127, 2) := by decide +kernel
theorem d_Md_ends_17 : decode prog_8_method_15_code 17 = .ok (.if_icmp .le 5, 3) := by decide +kernel
theorem d_Md_ends_20 : decode prog_8_method_15_code 20 = .ok (.iconst 0, 1) := by decide +kernel
theorem d_Md_ends_21 : decode prog_8_method_15_code 21 = .ok (.ireturn, 1) := by decide +kernel
theorem d_Md_ends_22 : decode prog_8_method_15_code 22 = .ok (.aload_n 0, 1) := by decide +kernel
theorem d_Md_ends_23 : decode prog_8_method_15_code 23 = .ok (.getfield 25, 3) := by decide +kernel
theorem d_Md_ends_26 : decode prog_8_method_15_code 26 = .ok (.iconst 0, 1) := by decide +kernel
theorem d_Md_ends_27 : decode prog_8_method_15_code 27 = .ok (.iload_n 1, 1) := by decide +kernel
theorem d_Md_ends_28 : decode prog_8_method_15_code 28 = .ok (.iastore, 1) := by decide +kernel
theorem d_Md_ends_29 : decode prog_8_method_15_code 29 = .ok (.aload_n 0, 1) := by decide +kernel
theorem d_Md_ends_30 : decode prog_8_method_15_code 30 = .ok (.getfield 28, 3) := by decide +kernel
theorem d_Md_ends_33 : decode prog_8_method_15_code 33 = .ok (.iconst 0, 1) := by decide +kernel
theorem d_Md_ends_34 : decode prog_8_method_15_code 34 = .ok (.iload_n 2, 1) := by decide +kernel
theorem d_Md_ends_35 : decode prog_8_method_15_code 35 = .ok (.iastore, 1) := by decide +kernel
theorem d_Md_ends_36 : decode prog_8_method_15_code 36 = .ok (.iconst 1, 1) := by decide +kernel
theorem d_Md_ends_37 : decode prog_8_method_15_code 37 = .ok (.ireturn, 1) := by decide +kernel
set_option maxRecDepth 20000 in
set_option maxHeartbeats 4000000 in
theorem cD_ends (E : fk_E) (b0 : Nat) (b1 : Nat) (b2 : Nat) (b3 : Nat) (b4 : Nat) (b5 : Nat) (b6 : Nat) (b7 : Nat) (b8 : Nat) (b9 : Nat) (b10 : Nat) (b11 : Nat) (b12 : Nat) (b13 : Nat) (b14 : Nat) (b15 : Nat) (mt : Nat) (mf : Nat) (my : Nat) (mw : Bool) (mfi : Nat → Nat) (mla : Nat → Nat) (f : Nat) (l : Nat) (hf : f < 128) (hl : l < 128) : fk_C E fy_Md_ends prog_8_method_15_code 3 (some .boolean) 0 0 0 [.ref b0, .int (nI f), .int (nI l)] [(b0, .inr (6, [.int (nI mt), .ref b1, .ref b2, .ref b3, .ref b4, .ref b5, .ref b6, .ref b7, .ref b8, .ref b9, .int (nI mf), .ref b10, .ref b11, .ref b12, .int (nI my), .int (nI (Bool.toNat mw)), .ref b13, .ref b14, .ref b15])), fk_ai E b6 2 mfi, fk_ai E b7 2 mla] (S := Unit) (fun _ => some (.int (nI (Bool.toNat true)))) (fun _ => True) (fun _ => [(b0, .inr (6, [.int (nI mt), .ref b1, .ref b2, .ref b3, .ref b4, .ref b5, .ref b6, .ref b7, .ref b8, .ref b9, .int (nI mf), .ref b10, .ref b11, .ref b12, .int (nI my), .int (nI (Bool.toNat mw)), .ref b13, .ref b14, .ref b15])), fk_ai E b6 2 (va_up mfi 0 f), fk_ai E b7 2 (va_up mla 0 l)]) := by
  refine fk_enterZ (v := fun _ => true) (by decide) (Nat.le_of_ble_eq_true rfl) (lv0 := [(0, .ref b0), (1, .int (nI f)), (2, .int (nI l))]) rfl ?_
  intro K hini hret
  refine fk_iload_n 1 d_Md_ends_0 rfl ?_
  refine fk_if_lt (by omega) d_Md_ends_1 rfl ?_
  refine fk_iload_n 1 d_Md_ends_4 rfl ?_
  refine fk_bipush (v := nI 127) d_Md_ends_5 (by decide +kernel) ?_
  refine fk_icmp_gt (a := f) (b := 127) (by omega) (by omega) d_Md_ends_7 rfl (fun h7t => ?_) (fun h7f => ?_)
  · omega
  · refine fk_iload_n 2 d_Md_ends_10 rfl ?_
    refine fk_if_lt (by omega) d_Md_ends_11 rfl ?_
    refine fk_iload_n 2 d_Md_ends_14 rfl ?_
    refine fk_bipush (v := nI 127) d_Md_ends_15 (by decide +kernel) ?_
    refine fk_icmp_le (a := l) (b := 127) (by omega) (by omega) d_Md_ends_17 rfl (fun h17t => ?_) (fun h17f => ?_)
    · refine fk_aload_n 0 d_Md_ends_22 rfl ?_
      refine fk_get 0 6 rfl rfl fh_Md (Nat.le_of_ble_eq_true rfl) fw_513 rfl d_Md_ends_23 ?_
      refine fk_iconst (v := nI 0) d_Md_ends_26 (by decide +kernel) ?_
      refine fk_iload_n 1 d_Md_ends_27 rfl ?_
      refine fk_st_ai (i := 0) (x := f) (w' := [(b0, .inr (6, [.int (nI mt), .ref b1, .ref b2, .ref b3, .ref b4, .ref b5, .ref b6, .ref b7, .ref b8, .ref b9, .int (nI mf), .ref b10, .ref b11, .ref b12, .int (nI my), .int (nI (Bool.toNat mw)), .ref b13, .ref b14, .ref b15])), fk_ai E b6 2 (va_up mfi 0 f), fk_ai E b7 2 mla]) 1 rfl (by omega) (by decide) d_Md_ends_28 rfl ?_
      refine fk_aload_n 0 d_Md_ends_29 rfl ?_
      refine fk_get 0 7 rfl rfl fh_Md (Nat.le_of_ble_eq_true rfl) fw_514 rfl d_Md_ends_30 ?_
      refine fk_iconst (v := nI 0) d_Md_ends_33 (by decide +kernel) ?_
      refine fk_iload_n 2 d_Md_ends_34 rfl ?_
      refine fk_st_ai (i := 0) (x := l) (w' := [(b0, .inr (6, [.int (nI mt), .ref b1, .ref b2, .ref b3, .ref b4, .ref b5, .ref b6, .ref b7, .ref b8, .ref b9, .int (nI mf), .ref b10, .ref b11, .ref b12, .int (nI my), .int (nI (Bool.toNat mw)), .ref b13, .ref b14, .ref b15])), fk_ai E b6 2 (va_up mfi 0 f), fk_ai E b7 2 (va_up mla 0 l)]) 2 rfl (by omega) (by decide) d_Md_ends_35 rfl ?_
      refine fk_iconst (v := nI 1) d_Md_ends_36 (by decide +kernel) ?_
      refine fk_top (fn_rt (b := true) (by first | assumption | (simp; omega) | simp_all | (simp_all; omega))) ?_
      exact hret (0, 0) _ 37 _ () d_Md_ends_37 (trivial) (rfl)
    · omega
set_option maxRecDepth 20000 in
set_option maxHeartbeats 4000000 in
theorem cD_endsO (E : fk_E) (b0 : Nat) (b1 : Nat) (b2 : Nat) (b3 : Nat) (b4 : Nat) (b5 : Nat) (b6 : Nat) (b7 : Nat) (b8 : Nat) (b9 : Nat) (b10 : Nat) (b11 : Nat) (b12 : Nat) (b13 : Nat) (b14 : Nat) (b15 : Nat) (mt : Nat) (mf : Nat) (my : Nat) (mw : Bool) (mfi : Nat → Nat) (mla : Nat → Nat) (f : Nat) (l : Nat) (h : ¬ (f < 128 ∧ l < 128)) (hf : f < 2 ^ 31) (hl : l < 2 ^ 31) : fk_C E fy_Md_ends prog_8_method_15_code 3 (some .boolean) 0 0 0 [.ref b0, .int (nI f), .int (nI l)] [(b0, .inr (6, [.int (nI mt), .ref b1, .ref b2, .ref b3, .ref b4, .ref b5, .ref b6, .ref b7, .ref b8, .ref b9, .int (nI mf), .ref b10, .ref b11, .ref b12, .int (nI my), .int (nI (Bool.toNat mw)), .ref b13, .ref b14, .ref b15])), fk_ai E b6 2 mfi, fk_ai E b7 2 mla] (S := Unit) (fun _ => some (.int (nI (Bool.toNat false)))) (fun _ => True) (fun _ => [(b0, .inr (6, [.int (nI mt), .ref b1, .ref b2, .ref b3, .ref b4, .ref b5, .ref b6, .ref b7, .ref b8, .ref b9, .int (nI mf), .ref b10, .ref b11, .ref b12, .int (nI my), .int (nI (Bool.toNat mw)), .ref b13, .ref b14, .ref b15])), fk_ai E b6 2 mfi, fk_ai E b7 2 mla]) := by
  refine fk_enterZ (v := fun _ => false) (by decide) (Nat.le_of_ble_eq_true rfl) (lv0 := [(0, .ref b0), (1, .int (nI f)), (2, .int (nI l))]) rfl ?_
  intro K hini hret
  refine fk_iload_n 1 d_Md_ends_0 rfl ?_
  refine fk_if_lt (by omega) d_Md_ends_1 rfl ?_
  refine fk_iload_n 1 d_Md_ends_4 rfl ?_
  refine fk_bipush (v := nI 127) d_Md_ends_5 (by decide +kernel) ?_
  refine fk_icmp_gt (a := f) (b := 127) (by omega) (by omega) d_Md_ends_7 rfl (fun h7t => ?_) (fun h7f => ?_)
  · refine fk_iconst (v := nI 0) d_Md_ends_20 (by decide +kernel) ?_
    refine fk_top (fn_rf (b := false) (by first | assumption | (simp; omega) | simp_all | (simp_all; omega))) ?_
    exact hret (0, 0) _ 21 _ () d_Md_ends_21 (trivial) (rfl)
  · refine fk_iload_n 2 d_Md_ends_10 rfl ?_
    refine fk_if_lt (by omega) d_Md_ends_11 rfl ?_
    refine fk_iload_n 2 d_Md_ends_14 rfl ?_
    refine fk_bipush (v := nI 127) d_Md_ends_15 (by decide +kernel) ?_
    refine fk_icmp_le (a := l) (b := 127) (by omega) (by omega) d_Md_ends_17 rfl (fun h17t => ?_) (fun h17f => ?_)
    · omega
    · refine fk_iconst (v := nI 0) d_Md_ends_20 (by decide +kernel) ?_
      refine fk_top (fn_rf (b := false) (by first | assumption | (simp; omega) | simp_all | (simp_all; omega))) ?_
      exact hret (0, 0) _ 21 _ () d_Md_ends_21 (trivial) (rfl)
set_option maxRecDepth 20000 in
set_option maxHeartbeats 4000000 in
theorem cD_endsM (E : fk_E) (b0 : Nat) (b1 : Nat) (b2 : Nat) (b3 : Nat) (b4 : Nat) (b5 : Nat) (b6 : Nat) (b7 : Nat) (b8 : Nat) (b9 : Nat) (b10 : Nat) (b11 : Nat) (b12 : Nat) (b13 : Nat) (b14 : Nat) (b15 : Nat) (mt : Nat) (mf : Nat) (my : Nat) (mw : Bool) (mfi : Nat → Nat) (mla : Nat → Nat) (x : Int32) (y : Int32) (hx : x < 0) : fk_C E fy_Md_ends prog_8_method_15_code 3 (some .boolean) 0 0 0 [.ref b0, .int x, .int y] [(b0, .inr (6, [.int (nI mt), .ref b1, .ref b2, .ref b3, .ref b4, .ref b5, .ref b6, .ref b7, .ref b8, .ref b9, .int (nI mf), .ref b10, .ref b11, .ref b12, .int (nI my), .int (nI (Bool.toNat mw)), .ref b13, .ref b14, .ref b15])), fk_ai E b6 2 mfi, fk_ai E b7 2 mla] (S := Unit) (fun _ => some (.int (nI (Bool.toNat false)))) (fun _ => True) (fun _ => [(b0, .inr (6, [.int (nI mt), .ref b1, .ref b2, .ref b3, .ref b4, .ref b5, .ref b6, .ref b7, .ref b8, .ref b9, .int (nI mf), .ref b10, .ref b11, .ref b12, .int (nI my), .int (nI (Bool.toNat mw)), .ref b13, .ref b14, .ref b15])), fk_ai E b6 2 mfi, fk_ai E b7 2 mla]) := by
  refine fk_enterZ (v := fun _ => false) (by decide) (Nat.le_of_ble_eq_true rfl) (lv0 := [(0, .ref b0), (1, .int x), (2, .int y)]) rfl ?_
  intro K hini hret
  refine fk_iload_n 1 d_Md_ends_0 rfl ?_
  refine fk_if_ltR d_Md_ends_1 rfl (fun h1t => ?_) (fun h1f => ?_)
  · refine fk_iconst (v := nI 0) d_Md_ends_20 (by decide +kernel) ?_
    refine fk_top (fn_rf (b := false) (by first | assumption | (simp; omega) | simp_all | (simp_all; omega))) ?_
    exact hret (0, 0) _ 21 _ () d_Md_ends_21 (trivial) (rfl)
  · exact absurd hx h1f
set_option maxRecDepth 20000 in
set_option maxHeartbeats 4000000 in
theorem cD_endsN (E : fk_E) (b0 : Nat) (b1 : Nat) (b2 : Nat) (b3 : Nat) (b4 : Nat) (b5 : Nat) (b6 : Nat) (b7 : Nat) (b8 : Nat) (b9 : Nat) (b10 : Nat) (b11 : Nat) (b12 : Nat) (b13 : Nat) (b14 : Nat) (b15 : Nat) (mt : Nat) (mf : Nat) (my : Nat) (mw : Bool) (mfi : Nat → Nat) (mla : Nat → Nat) (f : Nat) (y : Int32) (hf : f < 2 ^ 31) (hx : y < 0) : fk_C E fy_Md_ends prog_8_method_15_code 3 (some .boolean) 0 0 0 [.ref b0, .int (nI f), .int y] [(b0, .inr (6, [.int (nI mt), .ref b1, .ref b2, .ref b3, .ref b4, .ref b5, .ref b6, .ref b7, .ref b8, .ref b9, .int (nI mf), .ref b10, .ref b11, .ref b12, .int (nI my), .int (nI (Bool.toNat mw)), .ref b13, .ref b14, .ref b15])), fk_ai E b6 2 mfi, fk_ai E b7 2 mla] (S := Unit) (fun _ => some (.int (nI (Bool.toNat false)))) (fun _ => True) (fun _ => [(b0, .inr (6, [.int (nI mt), .ref b1, .ref b2, .ref b3, .ref b4, .ref b5, .ref b6, .ref b7, .ref b8, .ref b9, .int (nI mf), .ref b10, .ref b11, .ref b12, .int (nI my), .int (nI (Bool.toNat mw)), .ref b13, .ref b14, .ref b15])), fk_ai E b6 2 mfi, fk_ai E b7 2 mla]) := by
  refine fk_enterZ (v := fun _ => false) (by decide) (Nat.le_of_ble_eq_true rfl) (lv0 := [(0, .ref b0), (1, .int (nI f)), (2, .int y)]) rfl ?_
  intro K hini hret
  refine fk_iload_n 1 d_Md_ends_0 rfl ?_
  refine fk_if_lt (by omega) d_Md_ends_1 rfl ?_
  refine fk_iload_n 1 d_Md_ends_4 rfl ?_
  refine fk_bipush (v := nI 127) d_Md_ends_5 (by decide +kernel) ?_
  refine fk_icmp_gt (a := f) (b := 127) (by omega) (by omega) d_Md_ends_7 rfl (fun h7t => ?_) (fun h7f => ?_)
  · refine fk_iconst (v := nI 0) d_Md_ends_20 (by decide +kernel) ?_
    refine fk_top (fn_rf (b := false) (by first | assumption | (simp; omega) | simp_all | (simp_all; omega))) ?_
    exact hret (0, 0) _ 21 _ () d_Md_ends_21 (trivial) (rfl)
  · refine fk_iload_n 2 d_Md_ends_10 rfl ?_
    refine fk_if_ltR d_Md_ends_11 rfl (fun h11t => ?_) (fun h11f => ?_)
    · refine fk_iconst (v := nI 0) d_Md_ends_20 (by decide +kernel) ?_
      refine fk_top (fn_rf (b := false) (by first | assumption | (simp; omega) | simp_all | (simp_all; omega))) ?_
      exact hret (0, 0) _ 21 _ () d_Md_ends_21 (trivial) (rfl)
    · exact absurd hx h11f
theorem d_Md_reset_0 : decode prog_8_method_16_code 0 = .ok (.aload_n 0, 1) := by decide +kernel
theorem d_Md_reset_1 : decode prog_8_method_16_code 1 = .ok (.getfield 16, 3) := by decide +kernel
theorem d_Md_reset_4 : decode prog_8_method_16_code 4 = .ok (.iconst 0, 1) := by decide +kernel
theorem d_Md_reset_5 : decode prog_8_method_16_code 5 = .ok (.iconst 0, 1) := by decide +kernel
theorem d_Md_reset_6 : decode prog_8_method_16_code 6 = .ok (.iastore, 1) := by decide +kernel
theorem d_Md_reset_7 : decode prog_8_method_16_code 7 = .ok (.aload_n 0, 1) := by decide +kernel
theorem d_Md_reset_8 : decode prog_8_method_16_code 8 = .ok (.getfield 25, 3) := by decide +kernel
theorem d_Md_reset_11 : decode prog_8_method_16_code 11 = .ok (.iconst 0, 1) := by decide +kernel
theorem d_Md_reset_12 : decode prog_8_method_16_code 12 = .ok (.iconst 0, 1) := by decide +kernel
theorem d_Md_reset_13 : decode prog_8_method_16_code 13 = .ok (.iastore, 1) := by decide +kernel
theorem d_Md_reset_14 : decode prog_8_method_16_code 14 = .ok (.aload_n 0, 1) := by decide +kernel
theorem d_Md_reset_15 : decode prog_8_method_16_code 15 = .ok (.getfield 28, 3) := by decide +kernel
theorem d_Md_reset_18 : decode prog_8_method_16_code 18 = .ok (.iconst 0, 1) := by decide +kernel
theorem d_Md_reset_19 : decode prog_8_method_16_code 19 = .ok (.iconst 0, 1) := by decide +kernel
theorem d_Md_reset_20 : decode prog_8_method_16_code 20 = .ok (.iastore, 1) := by decide +kernel
theorem d_Md_reset_21 : decode prog_8_method_16_code 21 = .ok (.return_, 1) := by decide +kernel
set_option maxRecDepth 20000 in
set_option maxHeartbeats 4000000 in
theorem cD_reset (E : fk_E) (b0 : Nat) (b1 : Nat) (b2 : Nat) (b3 : Nat) (b4 : Nat) (b5 : Nat) (b6 : Nat) (b7 : Nat) (b8 : Nat) (b9 : Nat) (b10 : Nat) (b11 : Nat) (b12 : Nat) (b13 : Nat) (b14 : Nat) (b15 : Nat) (mt : Nat) (mf : Nat) (my : Nat) (mw : Bool) (mc : Nat → Nat) (mfi : Nat → Nat) (mla : Nat → Nat)  : fk_C E fy_Md_reset prog_8_method_16_code 1 none 0 0 0 [.ref b0] [(b0, .inr (6, [.int (nI mt), .ref b1, .ref b2, .ref b3, .ref b4, .ref b5, .ref b6, .ref b7, .ref b8, .ref b9, .int (nI mf), .ref b10, .ref b11, .ref b12, .int (nI my), .int (nI (Bool.toNat mw)), .ref b13, .ref b14, .ref b15])), fk_ai E b3 2 mc, fk_ai E b6 2 mfi, fk_ai E b7 2 mla] (S := Unit) (fun _ => none) (fun _ => True) (fun _ => [(b0, .inr (6, [.int (nI mt), .ref b1, .ref b2, .ref b3, .ref b4, .ref b5, .ref b6, .ref b7, .ref b8, .ref b9, .int (nI mf), .ref b10, .ref b11, .ref b12, .int (nI my), .int (nI (Bool.toNat mw)), .ref b13, .ref b14, .ref b15])), fk_ai E b3 2 (va_up mc 0 0), fk_ai E b6 2 (va_up mfi 0 0), fk_ai E b7 2 (va_up mla 0 0)]) := by
  refine fk_enterV (by decide) (Nat.le_of_ble_eq_true rfl) (lv0 := [(0, .ref b0)]) rfl ?_
  intro K hini hret
  refine fk_aload_n 0 d_Md_reset_0 rfl ?_
  refine fk_get 0 3 rfl rfl fh_Md (Nat.le_of_ble_eq_true rfl) fw_510 rfl d_Md_reset_1 ?_
  refine fk_iconst (v := nI 0) d_Md_reset_4 (by decide +kernel) ?_
  refine fk_iconst (v := nI 0) d_Md_reset_5 (by decide +kernel) ?_
  refine fk_st_ai (i := 0) (x := 0) (w' := [(b0, .inr (6, [.int (nI mt), .ref b1, .ref b2, .ref b3, .ref b4, .ref b5, .ref b6, .ref b7, .ref b8, .ref b9, .int (nI mf), .ref b10, .ref b11, .ref b12, .int (nI my), .int (nI (Bool.toNat mw)), .ref b13, .ref b14, .ref b15])), fk_ai E b3 2 (va_up mc 0 0), fk_ai E b6 2 mfi, fk_ai E b7 2 mla]) 1 rfl (by omega) (by decide) d_Md_reset_6 rfl ?_
  refine fk_aload_n 0 d_Md_reset_7 rfl ?_
  refine fk_get 0 6 rfl rfl fh_Md (Nat.le_of_ble_eq_true rfl) fw_513 rfl d_Md_reset_8 ?_
  refine fk_iconst (v := nI 0) d_Md_reset_11 (by decide +kernel) ?_
  refine fk_iconst (v := nI 0) d_Md_reset_12 (by decide +kernel) ?_
  refine fk_st_ai (i := 0) (x := 0) (w' := [(b0, .inr (6, [.int (nI mt), .ref b1, .ref b2, .ref b3, .ref b4, .ref b5, .ref b6, .ref b7, .ref b8, .ref b9, .int (nI mf), .ref b10, .ref b11, .ref b12, .int (nI my), .int (nI (Bool.toNat mw)), .ref b13, .ref b14, .ref b15])), fk_ai E b3 2 (va_up mc 0 0), fk_ai E b6 2 (va_up mfi 0 0), fk_ai E b7 2 mla]) 2 rfl (by omega) (by decide) d_Md_reset_13 rfl ?_
  refine fk_aload_n 0 d_Md_reset_14 rfl ?_
  refine fk_get 0 7 rfl rfl fh_Md (Nat.le_of_ble_eq_true rfl) fw_514 rfl d_Md_reset_15 ?_
  refine fk_iconst (v := nI 0) d_Md_reset_18 (by decide +kernel) ?_
  refine fk_iconst (v := nI 0) d_Md_reset_19 (by decide +kernel) ?_
  refine fk_st_ai (i := 0) (x := 0) (w' := [(b0, .inr (6, [.int (nI mt), .ref b1, .ref b2, .ref b3, .ref b4, .ref b5, .ref b6, .ref b7, .ref b8, .ref b9, .int (nI mf), .ref b10, .ref b11, .ref b12, .int (nI my), .int (nI (Bool.toNat mw)), .ref b13, .ref b14, .ref b15])), fk_ai E b3 2 (va_up mc 0 0), fk_ai E b6 2 (va_up mfi 0 0), fk_ai E b7 2 (va_up mla 0 0)]) 3 rfl (by omega) (by decide) d_Md_reset_20 rfl ?_
  exact hret (0, 0) _ 21 _ () d_Md_reset_21 (trivial) (rfl)
theorem d_Md_places_0 : decode prog_8_method_17_code 0 = .ok (.iload_n 1, 1) := by decide +kernel
theorem d_Md_places_1 : decode prog_8_method_17_code 1 = .ok (.invokestatic 82, 3) := by decide +kernel
theorem d_Md_places_4 : decode prog_8_method_17_code 4 = .ok (.ifCond .eq 7, 3) := by decide +kernel
theorem d_Md_places_7 : decode prog_8_method_17_code 7 = .ok (.iconst (-1), 1) := by decide +kernel
theorem d_Md_places_8 : decode prog_8_method_17_code 8 = .ok (.goto 9, 3) := by decide +kernel
theorem d_Md_places_11 : decode prog_8_method_17_code 11 = .ok (.aload_n 0, 1) := by decide +kernel
theorem d_Md_places_12 : decode prog_8_method_17_code 12 = .ok (.getfield 16, 3) := by decide +kernel
theorem d_Md_places_15 : decode prog_8_method_17_code 15 = .ok (.iload_n 1, 1) := by decide +kernel
theorem d_Md_places_16 : decode prog_8_method_17_code 16 = .ok (.iaload, 1) := by decide +kernel
theorem d_Md_places_17 : decode prog_8_method_17_code 17 = .ok (.ireturn, 1) := by decide +kernel
set_option maxRecDepth 20000 in
set_option maxHeartbeats 4000000 in
theorem cD_places (E : fk_E) (b0 : Nat) (b1 : Nat) (b2 : Nat) (b3 : Nat) (b4 : Nat) (b5 : Nat) (b6 : Nat) (b7 : Nat) (b8 : Nat) (b9 : Nat) (b10 : Nat) (b11 : Nat) (b12 : Nat) (b13 : Nat) (b14 : Nat) (b15 : Nat) (mt : Nat) (mf : Nat) (my : Nat) (mw : Bool) (mc : Nat → Nat) (q : Nat) (hq : q < 2) : fk_C E fy_Md_places prog_8_method_17_code 2 (some .int) 1 0 0 [.ref b0, .int (nI q)] [(b0, .inr (6, [.int (nI mt), .ref b1, .ref b2, .ref b3, .ref b4, .ref b5, .ref b6, .ref b7, .ref b8, .ref b9, .int (nI mf), .ref b10, .ref b11, .ref b12, .int (nI my), .int (nI (Bool.toNat mw)), .ref b13, .ref b14, .ref b15])), fk_ai E b3 2 mc] (S := Unit) (fun _ => some (.int (nI (mc q)))) (fun _ => True) (fun _ => [(b0, .inr (6, [.int (nI mt), .ref b1, .ref b2, .ref b3, .ref b4, .ref b5, .ref b6, .ref b7, .ref b8, .ref b9, .int (nI mf), .ref b10, .ref b11, .ref b12, .int (nI my), .int (nI (Bool.toNat mw)), .ref b13, .ref b14, .ref b15])), fk_ai E b3 2 mc]) := by
  refine fk_enterI (v := fun _ => (nI (mc q))) (by decide) (Nat.le_of_ble_eq_true rfl) (lv0 := [(0, .ref b0), (1, .int (nI q))]) rfl ?_
  intro K hini hret
  refine fk_iload_n 1 d_Md_places_0 rfl ?_
  refine fk_callS (As := [.int (nI q)]) (rest := []) (is := []) (ir := [0, 1]) (ip := [0, 1]) (wc := []) (wr := [(b0, .inr (6, [.int (nI mt), .ref b1, .ref b2, .ref b3, .ref b4, .ref b5, .ref b6, .ref b7, .ref b8, .ref b9, .int (nI mf), .ref b10, .ref b11, .ref b12, .int (nI my), .int (nI (Bool.toNat mw)), .ref b13, .ref b14, .ref b15])), fk_ai E b3 2 mc]) (w2 := fun _ => [(b0, .inr (6, [.int (nI mt), .ref b1, .ref b2, .ref b3, .ref b4, .ref b5, .ref b6, .ref b7, .ref b8, .ref b9, .int (nI mf), .ref b10, .ref b11, .ref b12, .int (nI my), .int (nI (Bool.toNat mw)), .ref b13, .ref b14, .ref b15])), fk_ai E b3 2 mc]) (cD_notNet E q (by first | omega | assumption)) d_Md_places_1 fz_Md_notNet fw_627 fw_628 ⟨Nat.le_of_ble_eq_true rfl, Nat.le_of_ble_eq_true rfl⟩ rfl (Nat.le_of_ble_eq_true rfl) ⟨Nat.zero_le _, Nat.zero_le _⟩ ⟨rfl, rfl, rfl, rfl, by decide, fun _ => rfl, rfl⟩ (fun u hu1 => ?_)
  show fk_V E _ K (0, 0) [(b0, .inr (6, [.int (nI mt), .ref b1, .ref b2, .ref b3, .ref b4, .ref b5, .ref b6, .ref b7, .ref b8, .ref b9, .int (nI mf), .ref b10, .ref b11, .ref b12, .int (nI my), .int (nI (Bool.toNat mw)), .ref b13, .ref b14, .ref b15])), fk_ai E b3 2 mc] 4 [(0, .ref b0), (1, .int (nI q))] [.int (nI (Bool.toNat (decide (2 ≤ q))))]
  refine fk_if_eqB (b := (decide (2 ≤ q))) d_Md_places_4 rfl (fun h4t => ?_) (fun h4f => ?_)
  · refine fk_aload_n 0 d_Md_places_11 rfl ?_
    refine fk_get 0 3 rfl rfl fh_Md (Nat.le_of_ble_eq_true rfl) fw_510 rfl d_Md_places_12 ?_
    refine fk_iload_n 1 d_Md_places_15 rfl ?_
    refine fk_ld_ai (i := q) 1 rfl (by omega) (by decide) d_Md_places_16 ?_
    exact hret (0, 0) _ 17 _ () d_Md_places_17 (trivial) (rfl)
  · exact absurd (of_decide_eq_true h4f) (by omega)
set_option maxRecDepth 20000 in
set_option maxHeartbeats 4000000 in
theorem cD_placesO (E : fk_E) (b0 : Nat) (b1 : Nat) (b2 : Nat) (b3 : Nat) (b4 : Nat) (b5 : Nat) (b6 : Nat) (b7 : Nat) (b8 : Nat) (b9 : Nat) (b10 : Nat) (b11 : Nat) (b12 : Nat) (b13 : Nat) (b14 : Nat) (b15 : Nat) (mt : Nat) (mf : Nat) (my : Nat) (mw : Bool) (q : Nat) (h : 2 ≤ q) (hq : q < 2 ^ 31) : fk_C E fy_Md_places prog_8_method_17_code 2 (some .int) 1 0 0 [.ref b0, .int (nI q)] [(b0, .inr (6, [.int (nI mt), .ref b1, .ref b2, .ref b3, .ref b4, .ref b5, .ref b6, .ref b7, .ref b8, .ref b9, .int (nI mf), .ref b10, .ref b11, .ref b12, .int (nI my), .int (nI (Bool.toNat mw)), .ref b13, .ref b14, .ref b15]))] (S := Unit) (fun _ => some (.int (nI 0 - 1))) (fun _ => True) (fun _ => [(b0, .inr (6, [.int (nI mt), .ref b1, .ref b2, .ref b3, .ref b4, .ref b5, .ref b6, .ref b7, .ref b8, .ref b9, .int (nI mf), .ref b10, .ref b11, .ref b12, .int (nI my), .int (nI (Bool.toNat mw)), .ref b13, .ref b14, .ref b15]))]) := by
  refine fk_enterI (v := fun _ => (nI 0 - 1)) (by decide) (Nat.le_of_ble_eq_true rfl) (lv0 := [(0, .ref b0), (1, .int (nI q))]) rfl ?_
  intro K hini hret
  refine fk_iload_n 1 d_Md_places_0 rfl ?_
  refine fk_callS (As := [.int (nI q)]) (rest := []) (is := []) (ir := [0]) (ip := [0]) (wc := []) (wr := [(b0, .inr (6, [.int (nI mt), .ref b1, .ref b2, .ref b3, .ref b4, .ref b5, .ref b6, .ref b7, .ref b8, .ref b9, .int (nI mf), .ref b10, .ref b11, .ref b12, .int (nI my), .int (nI (Bool.toNat mw)), .ref b13, .ref b14, .ref b15]))]) (w2 := fun _ => [(b0, .inr (6, [.int (nI mt), .ref b1, .ref b2, .ref b3, .ref b4, .ref b5, .ref b6, .ref b7, .ref b8, .ref b9, .int (nI mf), .ref b10, .ref b11, .ref b12, .int (nI my), .int (nI (Bool.toNat mw)), .ref b13, .ref b14, .ref b15]))]) (cD_notNet E q (by first | omega | assumption)) d_Md_places_1 fz_Md_notNet fw_627 fw_628 ⟨Nat.le_of_ble_eq_true rfl, Nat.le_of_ble_eq_true rfl⟩ rfl (Nat.le_of_ble_eq_true rfl) ⟨Nat.zero_le _, Nat.zero_le _⟩ ⟨rfl, rfl, rfl, rfl, by decide, fun _ => rfl, rfl⟩ (fun u hu1 => ?_)
  show fk_V E _ K (0, 0) [(b0, .inr (6, [.int (nI mt), .ref b1, .ref b2, .ref b3, .ref b4, .ref b5, .ref b6, .ref b7, .ref b8, .ref b9, .int (nI mf), .ref b10, .ref b11, .ref b12, .int (nI my), .int (nI (Bool.toNat mw)), .ref b13, .ref b14, .ref b15]))] 4 [(0, .ref b0), (1, .int (nI q))] [.int (nI (Bool.toNat (decide (2 ≤ q))))]
  refine fk_if_eqB (b := (decide (2 ≤ q))) d_Md_places_4 rfl (fun h4t => ?_) (fun h4f => ?_)
  · exact absurd (of_decide_eq_false h4t) (by omega)
  · refine fk_iconst (v := nI 0 - 1) d_Md_places_7 (by decide +kernel) ?_
    refine fk_goto d_Md_places_8 rfl ?_
    exact hret (0, 0) _ 17 _ () d_Md_places_17 (trivial) (rfl)
set_option maxRecDepth 20000 in
set_option maxHeartbeats 4000000 in
theorem cD_placesM (E : fk_E) (b0 : Nat) (b1 : Nat) (b2 : Nat) (b3 : Nat) (b4 : Nat) (b5 : Nat) (b6 : Nat) (b7 : Nat) (b8 : Nat) (b9 : Nat) (b10 : Nat) (b11 : Nat) (b12 : Nat) (b13 : Nat) (b14 : Nat) (b15 : Nat) (mt : Nat) (mf : Nat) (my : Nat) (mw : Bool) (x : Int32) (hx : x < 0) : fk_C E fy_Md_places prog_8_method_17_code 2 (some .int) 1 0 0 [.ref b0, .int x] [(b0, .inr (6, [.int (nI mt), .ref b1, .ref b2, .ref b3, .ref b4, .ref b5, .ref b6, .ref b7, .ref b8, .ref b9, .int (nI mf), .ref b10, .ref b11, .ref b12, .int (nI my), .int (nI (Bool.toNat mw)), .ref b13, .ref b14, .ref b15]))] (S := Unit) (fun _ => some (.int (nI 0 - 1))) (fun _ => True) (fun _ => [(b0, .inr (6, [.int (nI mt), .ref b1, .ref b2, .ref b3, .ref b4, .ref b5, .ref b6, .ref b7, .ref b8, .ref b9, .int (nI mf), .ref b10, .ref b11, .ref b12, .int (nI my), .int (nI (Bool.toNat mw)), .ref b13, .ref b14, .ref b15]))]) := by
  refine fk_enterI (v := fun _ => (nI 0 - 1)) (by decide) (Nat.le_of_ble_eq_true rfl) (lv0 := [(0, .ref b0), (1, .int x)]) rfl ?_
  intro K hini hret
  refine fk_iload_n 1 d_Md_places_0 rfl ?_
  refine fk_callS (As := [.int x]) (rest := []) (is := []) (ir := [0]) (ip := [0]) (wc := []) (wr := [(b0, .inr (6, [.int (nI mt), .ref b1, .ref b2, .ref b3, .ref b4, .ref b5, .ref b6, .ref b7, .ref b8, .ref b9, .int (nI mf), .ref b10, .ref b11, .ref b12, .int (nI my), .int (nI (Bool.toNat mw)), .ref b13, .ref b14, .ref b15]))]) (w2 := fun _ => [(b0, .inr (6, [.int (nI mt), .ref b1, .ref b2, .ref b3, .ref b4, .ref b5, .ref b6, .ref b7, .ref b8, .ref b9, .int (nI mf), .ref b10, .ref b11, .ref b12, .int (nI my), .int (nI (Bool.toNat mw)), .ref b13, .ref b14, .ref b15]))]) (cD_notNetM E x (by first | omega | assumption)) d_Md_places_1 fz_Md_notNet fw_627 fw_628 ⟨Nat.le_of_ble_eq_true rfl, Nat.le_of_ble_eq_true rfl⟩ rfl (Nat.le_of_ble_eq_true rfl) ⟨Nat.zero_le _, Nat.zero_le _⟩ ⟨rfl, rfl, rfl, rfl, by decide, fun _ => rfl, rfl⟩ (fun u hu1 => ?_)
  show fk_V E _ K (0, 0) [(b0, .inr (6, [.int (nI mt), .ref b1, .ref b2, .ref b3, .ref b4, .ref b5, .ref b6, .ref b7, .ref b8, .ref b9, .int (nI mf), .ref b10, .ref b11, .ref b12, .int (nI my), .int (nI (Bool.toNat mw)), .ref b13, .ref b14, .ref b15]))] 4 [(0, .ref b0), (1, .int x)] [.int (nI (Bool.toNat true))]
  refine fk_if_eqB (b := true) d_Md_places_4 rfl (fun h4t => ?_) (fun h4f => ?_)
  · exact absurd h4t (by decide)
  · refine fk_iconst (v := nI 0 - 1) d_Md_places_7 (by decide +kernel) ?_
    refine fk_goto d_Md_places_8 rfl ?_
    exact hret (0, 0) _ 17 _ () d_Md_places_17 (trivial) (rfl)
theorem d_Md_inputs_0 : decode prog_8_method_18_code 0 = .ok (.iload_n 1, 1) := by decide +kernel
theorem d_Md_inputs_1 : decode prog_8_method_18_code 1 = .ok (.invokestatic 82, 3) := by decide +kernel
theorem d_Md_inputs_4 : decode prog_8_method_18_code 4 = .ok (.ifCond .ne 17, 3) := by decide +kernel
theorem d_Md_inputs_7 : decode prog_8_method_18_code 7 = .ok (.iload_n 2, 1) := by decide +kernel
theorem d_Md_inputs_8 : decode prog_8_method_18_code 8 = .ok (.ifCond .lt 13, 3) := by decide +kernel
theorem d_Md_inputs_11 : decode prog_8_method_18_code 11 = .ok (.iload_n 2, 1) := by decide +kernel
theorem d_Md_inputs_12 : decode prog_8_method_18_code 12 = .ok (.aload_n 0, 1) := by decide +kernel
theorem d_Md_inputs_13 : decode prog_8_method_18_code 13 = .ok (.getfield 16, 3) := by decide +kernel
theorem d_Md_inputs_16 : decode prog_8_method_18_code 16 = .ok (.iload_n 1, 1) := by decide +kernel
theorem d_Md_inputs_17 : decode prog_8_method_18_code 17 = .ok (.iaload, 1) := by decide +kernel
theorem d_Md_inputs_18 : decode prog_8_method_18_code 18 = .ok (.if_icmp .le 5, 3) := by decide +kernel
theorem d_Md_inputs_21 : decode prog_8_method_18_code 21 = .ok (.iconst (-1), 1) := by decide +kernel
theorem d_Md_inputs_22 : decode prog_8_method_18_code 22 = .ok (.ireturn, 1) := by decide +kernel
theorem d_Md_inputs_23 : decode prog_8_method_18_code 23 = .ok (.iload_n 2, 1) := by decide +kernel
theorem d_Md_inputs_24 : decode prog_8_method_18_code 24 = .ok (.aload_n 0, 1) := by decide +kernel
theorem d_Md_inputs_25 : decode prog_8_method_18_code 25 = .ok (.getfield 16, 3) := by decide +kernel
theorem d_Md_inputs_28 : decode prog_8_method_18_code 28 = .ok (.iload_n 1, 1) := by decide +kernel
theorem d_Md_inputs_29 : decode prog_8_method_18_code 29 = .ok (.iaload, 1) := by decide +kernel
theorem d_Md_inputs_30 : decode prog_8_method_18_code 30 = .ok (.if_icmp .ne 12, 3) := by decide +kernel
theorem d_Md_inputs_33 : decode prog_8_method_18_code 33 = .ok (.aload_n 0, 1) := by decide +kernel
theorem d_Md_inputs_34 : decode prog_8_method_18_code 34 = .ok (.getfield 28, 3) := by decide +kernel
theorem d_Md_inputs_37 : decode prog_8_method_18_code 37 = .ok (.iload_n 1, 1) := by decide +kernel
theorem d_Md_inputs_38 : decode prog_8_method_18_code 38 = .ok (.iaload, 1) := by decide +kernel
theorem d_Md_inputs_39 : decode prog_8_method_18_code 39 = .ok (.goto 14, 3) := by decide +kernel
theorem d_Md_inputs_42 : decode prog_8_method_18_code 42 = .ok (.aload_n 0, 1) := by decide +kernel
theorem d_Md_inputs_43 : decode prog_8_method_18_code 43 = .ok (.getfield 19, 3) := by decide +kernel
theorem d_Md_inputs_46 : decode prog_8_method_18_code 46 = .ok (.bipush 14, 2) := by decide +kernel
theorem d_Md_inputs_48 : decode prog_8_method_18_code 48 = .ok (.iload_n 1, 1) := by decide +kernel
theorem d_Md_inputs_49 : decode prog_8_method_18_code 49 = .ok (.imul, 1) := by decide +kernel
theorem d_Md_inputs_50 : decode prog_8_method_18_code 50 = .ok (.iload_n 2, 1) := by decide +kernel
theorem d_Md_inputs_51 : decode prog_8_method_18_code 51 = .ok (.iadd, 1) := by decide +kernel
theorem d_Md_inputs_52 : decode prog_8_method_18_code 52 = .ok (.iaload, 1) := by decide +kernel
theorem d_Md_inputs_53 : decode prog_8_method_18_code 53 = .ok (.ireturn, 1) := by decide +kernel
set_option maxRecDepth 20000 in
set_option maxHeartbeats 4000000 in
theorem cD_inputs (E : fk_E) (b0 : Nat) (b1 : Nat) (b2 : Nat) (b3 : Nat) (b4 : Nat) (b5 : Nat) (b6 : Nat) (b7 : Nat) (b8 : Nat) (b9 : Nat) (b10 : Nat) (b11 : Nat) (b12 : Nat) (b13 : Nat) (b14 : Nat) (b15 : Nat) (mt : Nat) (mf : Nat) (my : Nat) (mw : Bool) (mc : Nat → Nat) (mi : Nat → Nat) (mla : Nat → Nat) (q : Nat) (k : Nat) (hq : q < 2) (hc : mc q ≤ 14) (hk : k < mc q) : fk_C E fy_Md_inputs prog_8_method_18_code 3 (some .int) 1 0 0 [.ref b0, .int (nI q), .int (nI k)] [(b0, .inr (6, [.int (nI mt), .ref b1, .ref b2, .ref b3, .ref b4, .ref b5, .ref b6, .ref b7, .ref b8, .ref b9, .int (nI mf), .ref b10, .ref b11, .ref b12, .int (nI my), .int (nI (Bool.toNat mw)), .ref b13, .ref b14, .ref b15])), fk_ai E b3 2 mc, fk_ai E b4 28 mi, fk_ai E b7 2 mla] (S := Unit) (fun _ => some (.int (nI (mi (14 * q + k))))) (fun _ => True) (fun _ => [(b0, .inr (6, [.int (nI mt), .ref b1, .ref b2, .ref b3, .ref b4, .ref b5, .ref b6, .ref b7, .ref b8, .ref b9, .int (nI mf), .ref b10, .ref b11, .ref b12, .int (nI my), .int (nI (Bool.toNat mw)), .ref b13, .ref b14, .ref b15])), fk_ai E b3 2 mc, fk_ai E b4 28 mi, fk_ai E b7 2 mla]) := by
  refine fk_enterI (v := fun _ => (nI (mi (14 * q + k)))) (by decide) (Nat.le_of_ble_eq_true rfl) (lv0 := [(0, .ref b0), (1, .int (nI q)), (2, .int (nI k))]) rfl ?_
  intro K hini hret
  refine fk_iload_n 1 d_Md_inputs_0 rfl ?_
  refine fk_callS (As := [.int (nI q)]) (rest := []) (is := []) (ir := [0, 1, 2, 3]) (ip := [0, 1, 2, 3]) (wc := []) (wr := [(b0, .inr (6, [.int (nI mt), .ref b1, .ref b2, .ref b3, .ref b4, .ref b5, .ref b6, .ref b7, .ref b8, .ref b9, .int (nI mf), .ref b10, .ref b11, .ref b12, .int (nI my), .int (nI (Bool.toNat mw)), .ref b13, .ref b14, .ref b15])), fk_ai E b3 2 mc, fk_ai E b4 28 mi, fk_ai E b7 2 mla]) (w2 := fun _ => [(b0, .inr (6, [.int (nI mt), .ref b1, .ref b2, .ref b3, .ref b4, .ref b5, .ref b6, .ref b7, .ref b8, .ref b9, .int (nI mf), .ref b10, .ref b11, .ref b12, .int (nI my), .int (nI (Bool.toNat mw)), .ref b13, .ref b14, .ref b15])), fk_ai E b3 2 mc, fk_ai E b4 28 mi, fk_ai E b7 2 mla]) (cD_notNet E q (by first | omega | assumption)) d_Md_inputs_1 fz_Md_notNet fw_627 fw_628 ⟨Nat.le_of_ble_eq_true rfl, Nat.le_of_ble_eq_true rfl⟩ rfl (Nat.le_of_ble_eq_true rfl) ⟨Nat.zero_le _, Nat.zero_le _⟩ ⟨rfl, rfl, rfl, rfl, by decide, fun _ => rfl, rfl⟩ (fun u hu1 => ?_)
  show fk_V E _ K (0, 0) [(b0, .inr (6, [.int (nI mt), .ref b1, .ref b2, .ref b3, .ref b4, .ref b5, .ref b6, .ref b7, .ref b8, .ref b9, .int (nI mf), .ref b10, .ref b11, .ref b12, .int (nI my), .int (nI (Bool.toNat mw)), .ref b13, .ref b14, .ref b15])), fk_ai E b3 2 mc, fk_ai E b4 28 mi, fk_ai E b7 2 mla] 4 [(0, .ref b0), (1, .int (nI q)), (2, .int (nI k))] [.int (nI (Bool.toNat (decide (2 ≤ q))))]
  refine fk_if_neB (b := (decide (2 ≤ q))) d_Md_inputs_4 rfl (fun h4t => ?_) (fun h4f => ?_)
  · exact absurd (of_decide_eq_true h4t) (by omega)
  · refine fk_iload_n 2 d_Md_inputs_7 rfl ?_
    refine fk_if_lt (by omega) d_Md_inputs_8 rfl ?_
    refine fk_iload_n 2 d_Md_inputs_11 rfl ?_
    refine fk_aload_n 0 d_Md_inputs_12 rfl ?_
    refine fk_get 0 3 rfl rfl fh_Md (Nat.le_of_ble_eq_true rfl) fw_510 rfl d_Md_inputs_13 ?_
    refine fk_iload_n 1 d_Md_inputs_16 rfl ?_
    refine fk_ld_ai (i := q) 1 rfl (by omega) (by decide) d_Md_inputs_17 ?_
    refine fk_icmp_le (a := k) (b := (mc q)) (by omega) (by omega) d_Md_inputs_18 rfl (fun h18t => ?_) (fun h18f => ?_)
    · refine fk_iload_n 2 d_Md_inputs_23 rfl ?_
      refine fk_aload_n 0 d_Md_inputs_24 rfl ?_
      refine fk_get 0 3 rfl rfl fh_Md (Nat.le_of_ble_eq_true rfl) fw_510 rfl d_Md_inputs_25 ?_
      refine fk_iload_n 1 d_Md_inputs_28 rfl ?_
      refine fk_ld_ai (i := q) 1 rfl (by omega) (by decide) d_Md_inputs_29 ?_
      refine fk_icmp_ne (a := k) (b := (mc q)) (by omega) (by omega) d_Md_inputs_30 rfl (fun h30t => ?_) (fun h30f => ?_)
      · refine fk_aload_n 0 d_Md_inputs_42 rfl ?_
        refine fk_get 0 4 rfl rfl fh_Md (Nat.le_of_ble_eq_true rfl) fw_511 rfl d_Md_inputs_43 ?_
        refine fk_bipush (v := nI 14) d_Md_inputs_46 (by decide +kernel) ?_
        refine fk_iload_n 1 d_Md_inputs_48 rfl ?_
        refine fk_imul (a := 14) (b := q) d_Md_inputs_49 ?_
        refine fk_iload_n 2 d_Md_inputs_50 rfl ?_
        refine fk_iadd (a := (14 * q)) (b := k) d_Md_inputs_51 ?_
        refine fk_ld_ai (i := ((14 * q) + k)) 2 rfl (by omega) (by decide) d_Md_inputs_52 ?_
        refine fk_top (congrArg nI (show mi ((14 * q) + k) = mi (14 * q + k) from by first | omega | simp_all)) ?_
        exact hret (0, 0) _ 53 _ () d_Md_inputs_53 (trivial) (rfl)
      · omega
    · omega
set_option maxRecDepth 20000 in
set_option maxHeartbeats 4000000 in
theorem cD_inputsE (E : fk_E) (b0 : Nat) (b1 : Nat) (b2 : Nat) (b3 : Nat) (b4 : Nat) (b5 : Nat) (b6 : Nat) (b7 : Nat) (b8 : Nat) (b9 : Nat) (b10 : Nat) (b11 : Nat) (b12 : Nat) (b13 : Nat) (b14 : Nat) (b15 : Nat) (mt : Nat) (mf : Nat) (my : Nat) (mw : Bool) (mc : Nat → Nat) (mi : Nat → Nat) (mla : Nat → Nat) (q : Nat) (k : Nat) (hq : q < 2) (hc : mc q ≤ 14) (hk : k = mc q) : fk_C E fy_Md_inputs prog_8_method_18_code 3 (some .int) 1 0 0 [.ref b0, .int (nI q), .int (nI k)] [(b0, .inr (6, [.int (nI mt), .ref b1, .ref b2, .ref b3, .ref b4, .ref b5, .ref b6, .ref b7, .ref b8, .ref b9, .int (nI mf), .ref b10, .ref b11, .ref b12, .int (nI my), .int (nI (Bool.toNat mw)), .ref b13, .ref b14, .ref b15])), fk_ai E b3 2 mc, fk_ai E b4 28 mi, fk_ai E b7 2 mla] (S := Unit) (fun _ => some (.int (nI (mla q)))) (fun _ => True) (fun _ => [(b0, .inr (6, [.int (nI mt), .ref b1, .ref b2, .ref b3, .ref b4, .ref b5, .ref b6, .ref b7, .ref b8, .ref b9, .int (nI mf), .ref b10, .ref b11, .ref b12, .int (nI my), .int (nI (Bool.toNat mw)), .ref b13, .ref b14, .ref b15])), fk_ai E b3 2 mc, fk_ai E b4 28 mi, fk_ai E b7 2 mla]) := by
  refine fk_enterI (v := fun _ => (nI (mla q))) (by decide) (Nat.le_of_ble_eq_true rfl) (lv0 := [(0, .ref b0), (1, .int (nI q)), (2, .int (nI k))]) rfl ?_
  intro K hini hret
  refine fk_iload_n 1 d_Md_inputs_0 rfl ?_
  refine fk_callS (As := [.int (nI q)]) (rest := []) (is := []) (ir := [0, 1, 2, 3]) (ip := [0, 1, 2, 3]) (wc := []) (wr := [(b0, .inr (6, [.int (nI mt), .ref b1, .ref b2, .ref b3, .ref b4, .ref b5, .ref b6, .ref b7, .ref b8, .ref b9, .int (nI mf), .ref b10, .ref b11, .ref b12, .int (nI my), .int (nI (Bool.toNat mw)), .ref b13, .ref b14, .ref b15])), fk_ai E b3 2 mc, fk_ai E b4 28 mi, fk_ai E b7 2 mla]) (w2 := fun _ => [(b0, .inr (6, [.int (nI mt), .ref b1, .ref b2, .ref b3, .ref b4, .ref b5, .ref b6, .ref b7, .ref b8, .ref b9, .int (nI mf), .ref b10, .ref b11, .ref b12, .int (nI my), .int (nI (Bool.toNat mw)), .ref b13, .ref b14, .ref b15])), fk_ai E b3 2 mc, fk_ai E b4 28 mi, fk_ai E b7 2 mla]) (cD_notNet E q (by first | omega | assumption)) d_Md_inputs_1 fz_Md_notNet fw_627 fw_628 ⟨Nat.le_of_ble_eq_true rfl, Nat.le_of_ble_eq_true rfl⟩ rfl (Nat.le_of_ble_eq_true rfl) ⟨Nat.zero_le _, Nat.zero_le _⟩ ⟨rfl, rfl, rfl, rfl, by decide, fun _ => rfl, rfl⟩ (fun u hu1 => ?_)
  show fk_V E _ K (0, 0) [(b0, .inr (6, [.int (nI mt), .ref b1, .ref b2, .ref b3, .ref b4, .ref b5, .ref b6, .ref b7, .ref b8, .ref b9, .int (nI mf), .ref b10, .ref b11, .ref b12, .int (nI my), .int (nI (Bool.toNat mw)), .ref b13, .ref b14, .ref b15])), fk_ai E b3 2 mc, fk_ai E b4 28 mi, fk_ai E b7 2 mla] 4 [(0, .ref b0), (1, .int (nI q)), (2, .int (nI k))] [.int (nI (Bool.toNat (decide (2 ≤ q))))]
  refine fk_if_neB (b := (decide (2 ≤ q))) d_Md_inputs_4 rfl (fun h4t => ?_) (fun h4f => ?_)
  · exact absurd (of_decide_eq_true h4t) (by omega)
  · refine fk_iload_n 2 d_Md_inputs_7 rfl ?_
    refine fk_if_lt (by omega) d_Md_inputs_8 rfl ?_
    refine fk_iload_n 2 d_Md_inputs_11 rfl ?_
    refine fk_aload_n 0 d_Md_inputs_12 rfl ?_
    refine fk_get 0 3 rfl rfl fh_Md (Nat.le_of_ble_eq_true rfl) fw_510 rfl d_Md_inputs_13 ?_
    refine fk_iload_n 1 d_Md_inputs_16 rfl ?_
    refine fk_ld_ai (i := q) 1 rfl (by omega) (by decide) d_Md_inputs_17 ?_
    refine fk_icmp_le (a := k) (b := (mc q)) (by omega) (by omega) d_Md_inputs_18 rfl (fun h18t => ?_) (fun h18f => ?_)
    · refine fk_iload_n 2 d_Md_inputs_23 rfl ?_
      refine fk_aload_n 0 d_Md_inputs_24 rfl ?_
      refine fk_get 0 3 rfl rfl fh_Md (Nat.le_of_ble_eq_true rfl) fw_510 rfl d_Md_inputs_25 ?_
      refine fk_iload_n 1 d_Md_inputs_28 rfl ?_
      refine fk_ld_ai (i := q) 1 rfl (by omega) (by decide) d_Md_inputs_29 ?_
      refine fk_icmp_ne (a := k) (b := (mc q)) (by omega) (by omega) d_Md_inputs_30 rfl (fun h30t => ?_) (fun h30f => ?_)
      · omega
      · refine fk_aload_n 0 d_Md_inputs_33 rfl ?_
        refine fk_get 0 7 rfl rfl fh_Md (Nat.le_of_ble_eq_true rfl) fw_514 rfl d_Md_inputs_34 ?_
        refine fk_iload_n 1 d_Md_inputs_37 rfl ?_
        refine fk_ld_ai (i := q) 3 rfl (by omega) (by decide) d_Md_inputs_38 ?_
        refine fk_goto d_Md_inputs_39 rfl ?_
        exact hret (0, 0) _ 53 _ () d_Md_inputs_53 (trivial) (rfl)
    · omega
set_option maxRecDepth 20000 in
set_option maxHeartbeats 4000000 in
theorem cD_inputsK (E : fk_E) (b0 : Nat) (b1 : Nat) (b2 : Nat) (b3 : Nat) (b4 : Nat) (b5 : Nat) (b6 : Nat) (b7 : Nat) (b8 : Nat) (b9 : Nat) (b10 : Nat) (b11 : Nat) (b12 : Nat) (b13 : Nat) (b14 : Nat) (b15 : Nat) (mt : Nat) (mf : Nat) (my : Nat) (mw : Bool) (mc : Nat → Nat) (mi : Nat → Nat) (mla : Nat → Nat) (q : Nat) (k : Nat) (hq : q < 2) (hc : mc q ≤ 14) (hk : mc q < k) (hk2 : k < 2 ^ 31) : fk_C E fy_Md_inputs prog_8_method_18_code 3 (some .int) 1 0 0 [.ref b0, .int (nI q), .int (nI k)] [(b0, .inr (6, [.int (nI mt), .ref b1, .ref b2, .ref b3, .ref b4, .ref b5, .ref b6, .ref b7, .ref b8, .ref b9, .int (nI mf), .ref b10, .ref b11, .ref b12, .int (nI my), .int (nI (Bool.toNat mw)), .ref b13, .ref b14, .ref b15])), fk_ai E b3 2 mc, fk_ai E b4 28 mi, fk_ai E b7 2 mla] (S := Unit) (fun _ => some (.int (nI 0 - 1))) (fun _ => True) (fun _ => [(b0, .inr (6, [.int (nI mt), .ref b1, .ref b2, .ref b3, .ref b4, .ref b5, .ref b6, .ref b7, .ref b8, .ref b9, .int (nI mf), .ref b10, .ref b11, .ref b12, .int (nI my), .int (nI (Bool.toNat mw)), .ref b13, .ref b14, .ref b15])), fk_ai E b3 2 mc, fk_ai E b4 28 mi, fk_ai E b7 2 mla]) := by
  refine fk_enterI (v := fun _ => (nI 0 - 1)) (by decide) (Nat.le_of_ble_eq_true rfl) (lv0 := [(0, .ref b0), (1, .int (nI q)), (2, .int (nI k))]) rfl ?_
  intro K hini hret
  refine fk_iload_n 1 d_Md_inputs_0 rfl ?_
  refine fk_callS (As := [.int (nI q)]) (rest := []) (is := []) (ir := [0, 1, 2, 3]) (ip := [0, 1, 2, 3]) (wc := []) (wr := [(b0, .inr (6, [.int (nI mt), .ref b1, .ref b2, .ref b3, .ref b4, .ref b5, .ref b6, .ref b7, .ref b8, .ref b9, .int (nI mf), .ref b10, .ref b11, .ref b12, .int (nI my), .int (nI (Bool.toNat mw)), .ref b13, .ref b14, .ref b15])), fk_ai E b3 2 mc, fk_ai E b4 28 mi, fk_ai E b7 2 mla]) (w2 := fun _ => [(b0, .inr (6, [.int (nI mt), .ref b1, .ref b2, .ref b3, .ref b4, .ref b5, .ref b6, .ref b7, .ref b8, .ref b9, .int (nI mf), .ref b10, .ref b11, .ref b12, .int (nI my), .int (nI (Bool.toNat mw)), .ref b13, .ref b14, .ref b15])), fk_ai E b3 2 mc, fk_ai E b4 28 mi, fk_ai E b7 2 mla]) (cD_notNet E q (by first | omega | assumption)) d_Md_inputs_1 fz_Md_notNet fw_627 fw_628 ⟨Nat.le_of_ble_eq_true rfl, Nat.le_of_ble_eq_true rfl⟩ rfl (Nat.le_of_ble_eq_true rfl) ⟨Nat.zero_le _, Nat.zero_le _⟩ ⟨rfl, rfl, rfl, rfl, by decide, fun _ => rfl, rfl⟩ (fun u hu1 => ?_)
  show fk_V E _ K (0, 0) [(b0, .inr (6, [.int (nI mt), .ref b1, .ref b2, .ref b3, .ref b4, .ref b5, .ref b6, .ref b7, .ref b8, .ref b9, .int (nI mf), .ref b10, .ref b11, .ref b12, .int (nI my), .int (nI (Bool.toNat mw)), .ref b13, .ref b14, .ref b15])), fk_ai E b3 2 mc, fk_ai E b4 28 mi, fk_ai E b7 2 mla] 4 [(0, .ref b0), (1, .int (nI q)), (2, .int (nI k))] [.int (nI (Bool.toNat (decide (2 ≤ q))))]
  refine fk_if_neB (b := (decide (2 ≤ q))) d_Md_inputs_4 rfl (fun h4t => ?_) (fun h4f => ?_)
  · exact absurd (of_decide_eq_true h4t) (by omega)
  · refine fk_iload_n 2 d_Md_inputs_7 rfl ?_
    refine fk_if_lt (by omega) d_Md_inputs_8 rfl ?_
    refine fk_iload_n 2 d_Md_inputs_11 rfl ?_
    refine fk_aload_n 0 d_Md_inputs_12 rfl ?_
    refine fk_get 0 3 rfl rfl fh_Md (Nat.le_of_ble_eq_true rfl) fw_510 rfl d_Md_inputs_13 ?_
    refine fk_iload_n 1 d_Md_inputs_16 rfl ?_
    refine fk_ld_ai (i := q) 1 rfl (by omega) (by decide) d_Md_inputs_17 ?_
    refine fk_icmp_le (a := k) (b := (mc q)) (by omega) (by omega) d_Md_inputs_18 rfl (fun h18t => ?_) (fun h18f => ?_)
    · omega
    · refine fk_iconst (v := nI 0 - 1) d_Md_inputs_21 (by decide +kernel) ?_
      exact hret (0, 0) _ 22 _ () d_Md_inputs_22 (trivial) (rfl)
set_option maxRecDepth 20000 in
set_option maxHeartbeats 4000000 in
theorem cD_inputsY (E : fk_E) (b0 : Nat) (b1 : Nat) (b2 : Nat) (b3 : Nat) (b4 : Nat) (b5 : Nat) (b6 : Nat) (b7 : Nat) (b8 : Nat) (b9 : Nat) (b10 : Nat) (b11 : Nat) (b12 : Nat) (b13 : Nat) (b14 : Nat) (b15 : Nat) (mt : Nat) (mf : Nat) (my : Nat) (mw : Bool) (mc : Nat → Nat) (mi : Nat → Nat) (mla : Nat → Nat) (q : Nat) (y : Int32) (hq : q < 2) (hy : y < 0) : fk_C E fy_Md_inputs prog_8_method_18_code 3 (some .int) 1 0 0 [.ref b0, .int (nI q), .int y] [(b0, .inr (6, [.int (nI mt), .ref b1, .ref b2, .ref b3, .ref b4, .ref b5, .ref b6, .ref b7, .ref b8, .ref b9, .int (nI mf), .ref b10, .ref b11, .ref b12, .int (nI my), .int (nI (Bool.toNat mw)), .ref b13, .ref b14, .ref b15])), fk_ai E b3 2 mc, fk_ai E b4 28 mi, fk_ai E b7 2 mla] (S := Unit) (fun _ => some (.int (nI 0 - 1))) (fun _ => True) (fun _ => [(b0, .inr (6, [.int (nI mt), .ref b1, .ref b2, .ref b3, .ref b4, .ref b5, .ref b6, .ref b7, .ref b8, .ref b9, .int (nI mf), .ref b10, .ref b11, .ref b12, .int (nI my), .int (nI (Bool.toNat mw)), .ref b13, .ref b14, .ref b15])), fk_ai E b3 2 mc, fk_ai E b4 28 mi, fk_ai E b7 2 mla]) := by
  refine fk_enterI (v := fun _ => (nI 0 - 1)) (by decide) (Nat.le_of_ble_eq_true rfl) (lv0 := [(0, .ref b0), (1, .int (nI q)), (2, .int y)]) rfl ?_
  intro K hini hret
  refine fk_iload_n 1 d_Md_inputs_0 rfl ?_
  refine fk_callS (As := [.int (nI q)]) (rest := []) (is := []) (ir := [0, 1, 2, 3]) (ip := [0, 1, 2, 3]) (wc := []) (wr := [(b0, .inr (6, [.int (nI mt), .ref b1, .ref b2, .ref b3, .ref b4, .ref b5, .ref b6, .ref b7, .ref b8, .ref b9, .int (nI mf), .ref b10, .ref b11, .ref b12, .int (nI my), .int (nI (Bool.toNat mw)), .ref b13, .ref b14, .ref b15])), fk_ai E b3 2 mc, fk_ai E b4 28 mi, fk_ai E b7 2 mla]) (w2 := fun _ => [(b0, .inr (6, [.int (nI mt), .ref b1, .ref b2, .ref b3, .ref b4, .ref b5, .ref b6, .ref b7, .ref b8, .ref b9, .int (nI mf), .ref b10, .ref b11, .ref b12, .int (nI my), .int (nI (Bool.toNat mw)), .ref b13, .ref b14, .ref b15])), fk_ai E b3 2 mc, fk_ai E b4 28 mi, fk_ai E b7 2 mla]) (cD_notNet E q (by first | omega | assumption)) d_Md_inputs_1 fz_Md_notNet fw_627 fw_628 ⟨Nat.le_of_ble_eq_true rfl, Nat.le_of_ble_eq_true rfl⟩ rfl (Nat.le_of_ble_eq_true rfl) ⟨Nat.zero_le _, Nat.zero_le _⟩ ⟨rfl, rfl, rfl, rfl, by decide, fun _ => rfl, rfl⟩ (fun u hu1 => ?_)
  show fk_V E _ K (0, 0) [(b0, .inr (6, [.int (nI mt), .ref b1, .ref b2, .ref b3, .ref b4, .ref b5, .ref b6, .ref b7, .ref b8, .ref b9, .int (nI mf), .ref b10, .ref b11, .ref b12, .int (nI my), .int (nI (Bool.toNat mw)), .ref b13, .ref b14, .ref b15])), fk_ai E b3 2 mc, fk_ai E b4 28 mi, fk_ai E b7 2 mla] 4 [(0, .ref b0), (1, .int (nI q)), (2, .int y)] [.int (nI (Bool.toNat (decide (2 ≤ q))))]
  refine fk_if_neB (b := (decide (2 ≤ q))) d_Md_inputs_4 rfl (fun h4t => ?_) (fun h4f => ?_)
  · exact absurd (of_decide_eq_true h4t) (by omega)
  · refine fk_iload_n 2 d_Md_inputs_7 rfl ?_
    refine fk_if_ltR d_Md_inputs_8 rfl (fun h8t => ?_) (fun h8f => ?_)
    · refine fk_iconst (v := nI 0 - 1) d_Md_inputs_21 (by decide +kernel) ?_
      exact hret (0, 0) _ 22 _ () d_Md_inputs_22 (trivial) (rfl)
    · exact absurd hy h8f
set_option maxRecDepth 20000 in
set_option maxHeartbeats 4000000 in
theorem cD_inputsO (E : fk_E) (b0 : Nat) (b1 : Nat) (b2 : Nat) (b3 : Nat) (b4 : Nat) (b5 : Nat) (b6 : Nat) (b7 : Nat) (b8 : Nat) (b9 : Nat) (b10 : Nat) (b11 : Nat) (b12 : Nat) (b13 : Nat) (b14 : Nat) (b15 : Nat) (mt : Nat) (mf : Nat) (my : Nat) (mw : Bool) (q : Nat) (y : Int32) (h : 2 ≤ q) (hq : q < 2 ^ 31) : fk_C E fy_Md_inputs prog_8_method_18_code 3 (some .int) 1 0 0 [.ref b0, .int (nI q), .int y] [(b0, .inr (6, [.int (nI mt), .ref b1, .ref b2, .ref b3, .ref b4, .ref b5, .ref b6, .ref b7, .ref b8, .ref b9, .int (nI mf), .ref b10, .ref b11, .ref b12, .int (nI my), .int (nI (Bool.toNat mw)), .ref b13, .ref b14, .ref b15]))] (S := Unit) (fun _ => some (.int (nI 0 - 1))) (fun _ => True) (fun _ => [(b0, .inr (6, [.int (nI mt), .ref b1, .ref b2, .ref b3, .ref b4, .ref b5, .ref b6, .ref b7, .ref b8, .ref b9, .int (nI mf), .ref b10, .ref b11, .ref b12, .int (nI my), .int (nI (Bool.toNat mw)), .ref b13, .ref b14, .ref b15]))]) := by
  refine fk_enterI (v := fun _ => (nI 0 - 1)) (by decide) (Nat.le_of_ble_eq_true rfl) (lv0 := [(0, .ref b0), (1, .int (nI q)), (2, .int y)]) rfl ?_
  intro K hini hret
  refine fk_iload_n 1 d_Md_inputs_0 rfl ?_
  refine fk_callS (As := [.int (nI q)]) (rest := []) (is := []) (ir := [0]) (ip := [0]) (wc := []) (wr := [(b0, .inr (6, [.int (nI mt), .ref b1, .ref b2, .ref b3, .ref b4, .ref b5, .ref b6, .ref b7, .ref b8, .ref b9, .int (nI mf), .ref b10, .ref b11, .ref b12, .int (nI my), .int (nI (Bool.toNat mw)), .ref b13, .ref b14, .ref b15]))]) (w2 := fun _ => [(b0, .inr (6, [.int (nI mt), .ref b1, .ref b2, .ref b3, .ref b4, .ref b5, .ref b6, .ref b7, .ref b8, .ref b9, .int (nI mf), .ref b10, .ref b11, .ref b12, .int (nI my), .int (nI (Bool.toNat mw)), .ref b13, .ref b14, .ref b15]))]) (cD_notNet E q (by first | omega | assumption)) d_Md_inputs_1 fz_Md_notNet fw_627 fw_628 ⟨Nat.le_of_ble_eq_true rfl, Nat.le_of_ble_eq_true rfl⟩ rfl (Nat.le_of_ble_eq_true rfl) ⟨Nat.zero_le _, Nat.zero_le _⟩ ⟨rfl, rfl, rfl, rfl, by decide, fun _ => rfl, rfl⟩ (fun u hu1 => ?_)
  show fk_V E _ K (0, 0) [(b0, .inr (6, [.int (nI mt), .ref b1, .ref b2, .ref b3, .ref b4, .ref b5, .ref b6, .ref b7, .ref b8, .ref b9, .int (nI mf), .ref b10, .ref b11, .ref b12, .int (nI my), .int (nI (Bool.toNat mw)), .ref b13, .ref b14, .ref b15]))] 4 [(0, .ref b0), (1, .int (nI q)), (2, .int y)] [.int (nI (Bool.toNat (decide (2 ≤ q))))]
  refine fk_if_neB (b := (decide (2 ≤ q))) d_Md_inputs_4 rfl (fun h4t => ?_) (fun h4f => ?_)
  · refine fk_iconst (v := nI 0 - 1) d_Md_inputs_21 (by decide +kernel) ?_
    exact hret (0, 0) _ 22 _ () d_Md_inputs_22 (trivial) (rfl)
  · exact absurd (of_decide_eq_false h4f) (by omega)
set_option maxRecDepth 20000 in
set_option maxHeartbeats 4000000 in
theorem cD_inputsM (E : fk_E) (b0 : Nat) (b1 : Nat) (b2 : Nat) (b3 : Nat) (b4 : Nat) (b5 : Nat) (b6 : Nat) (b7 : Nat) (b8 : Nat) (b9 : Nat) (b10 : Nat) (b11 : Nat) (b12 : Nat) (b13 : Nat) (b14 : Nat) (b15 : Nat) (mt : Nat) (mf : Nat) (my : Nat) (mw : Bool) (x : Int32) (y : Int32) (hx : x < 0) : fk_C E fy_Md_inputs prog_8_method_18_code 3 (some .int) 1 0 0 [.ref b0, .int x, .int y] [(b0, .inr (6, [.int (nI mt), .ref b1, .ref b2, .ref b3, .ref b4, .ref b5, .ref b6, .ref b7, .ref b8, .ref b9, .int (nI mf), .ref b10, .ref b11, .ref b12, .int (nI my), .int (nI (Bool.toNat mw)), .ref b13, .ref b14, .ref b15]))] (S := Unit) (fun _ => some (.int (nI 0 - 1))) (fun _ => True) (fun _ => [(b0, .inr (6, [.int (nI mt), .ref b1, .ref b2, .ref b3, .ref b4, .ref b5, .ref b6, .ref b7, .ref b8, .ref b9, .int (nI mf), .ref b10, .ref b11, .ref b12, .int (nI my), .int (nI (Bool.toNat mw)), .ref b13, .ref b14, .ref b15]))]) := by
  refine fk_enterI (v := fun _ => (nI 0 - 1)) (by decide) (Nat.le_of_ble_eq_true rfl) (lv0 := [(0, .ref b0), (1, .int x), (2, .int y)]) rfl ?_
  intro K hini hret
  refine fk_iload_n 1 d_Md_inputs_0 rfl ?_
  refine fk_callS (As := [.int x]) (rest := []) (is := []) (ir := [0]) (ip := [0]) (wc := []) (wr := [(b0, .inr (6, [.int (nI mt), .ref b1, .ref b2, .ref b3, .ref b4, .ref b5, .ref b6, .ref b7, .ref b8, .ref b9, .int (nI mf), .ref b10, .ref b11, .ref b12, .int (nI my), .int (nI (Bool.toNat mw)), .ref b13, .ref b14, .ref b15]))]) (w2 := fun _ => [(b0, .inr (6, [.int (nI mt), .ref b1, .ref b2, .ref b3, .ref b4, .ref b5, .ref b6, .ref b7, .ref b8, .ref b9, .int (nI mf), .ref b10, .ref b11, .ref b12, .int (nI my), .int (nI (Bool.toNat mw)), .ref b13, .ref b14, .ref b15]))]) (cD_notNetM E x (by first | omega | assumption)) d_Md_inputs_1 fz_Md_notNet fw_627 fw_628 ⟨Nat.le_of_ble_eq_true rfl, Nat.le_of_ble_eq_true rfl⟩ rfl (Nat.le_of_ble_eq_true rfl) ⟨Nat.zero_le _, Nat.zero_le _⟩ ⟨rfl, rfl, rfl, rfl, by decide, fun _ => rfl, rfl⟩ (fun u hu1 => ?_)
  show fk_V E _ K (0, 0) [(b0, .inr (6, [.int (nI mt), .ref b1, .ref b2, .ref b3, .ref b4, .ref b5, .ref b6, .ref b7, .ref b8, .ref b9, .int (nI mf), .ref b10, .ref b11, .ref b12, .int (nI my), .int (nI (Bool.toNat mw)), .ref b13, .ref b14, .ref b15]))] 4 [(0, .ref b0), (1, .int x), (2, .int y)] [.int (nI (Bool.toNat true))]
  refine fk_if_neB (b := true) d_Md_inputs_4 rfl (fun h4t => ?_) (fun h4f => ?_)
  · refine fk_iconst (v := nI 0 - 1) d_Md_inputs_21 (by decide +kernel) ?_
    exact hret (0, 0) _ 22 _ () d_Md_inputs_22 (trivial) (rfl)
  · exact absurd h4f (by decide)
theorem d_Md_outputs_0 : decode prog_8_method_19_code 0 = .ok (.iload_n 1, 1) := by decide +kernel
theorem d_Md_outputs_1 : decode prog_8_method_19_code 1 = .ok (.invokestatic 82, 3) := by decide +kernel
theorem d_Md_outputs_4 : decode prog_8_method_19_code 4 = .ok (.ifCond .ne 17, 3) := by decide +kernel
theorem d_Md_outputs_7 : decode prog_8_method_19_code 7 = .ok (.iload_n 2, 1) := by decide +kernel
theorem d_Md_outputs_8 : decode prog_8_method_19_code 8 = .ok (.ifCond .lt 13, 3) := by decide +kernel
theorem d_Md_outputs_11 : decode prog_8_method_19_code 11 = .ok (.iload_n 2, 1) := by decide +kernel
theorem d_Md_outputs_12 : decode prog_8_method_19_code 12 = .ok (.aload_n 0, 1) := by decide +kernel
theorem d_Md_outputs_13 : decode prog_8_method_19_code 13 = .ok (.getfield 16, 3) := by decide +kernel
theorem d_Md_outputs_16 : decode prog_8_method_19_code 16 = .ok (.iload_n 1, 1) := by decide +kernel
theorem d_Md_outputs_17 : decode prog_8_method_19_code 17 = .ok (.iaload, 1) := by decide +kernel
theorem d_Md_outputs_18 : decode prog_8_method_19_code 18 = .ok (.if_icmp .le 5, 3) := by decide +kernel
theorem d_Md_outputs_21 : decode prog_8_method_19_code 21 = .ok (.iconst (-1), 1) := by decide +kernel
theorem d_Md_outputs_22 : decode prog_8_method_19_code 22 = .ok (.ireturn, 1) := by decide +kernel
theorem d_Md_outputs_23 : decode prog_8_method_19_code 23 = .ok (.iload_n 2, 1) := by decide +kernel
theorem d_Md_outputs_24 : decode prog_8_method_19_code 24 = .ok (.aload_n 0, 1) := by decide +kernel
theorem d_Md_outputs_25 : decode prog_8_method_19_code 25 = .ok (.getfield 16, 3) := by decide +kernel
theorem d_Md_outputs_28 : decode prog_8_method_19_code 28 = .ok (.iload_n 1, 1) := by decide +kernel
theorem d_Md_outputs_29 : decode prog_8_method_19_code 29 = .ok (.iaload, 1) := by decide +kernel
theorem d_Md_outputs_30 : decode prog_8_method_19_code 30 = .ok (.if_icmp .ne 12, 3) := by decide +kernel
theorem d_Md_outputs_33 : decode prog_8_method_19_code 33 = .ok (.aload_n 0, 1) := by decide +kernel
theorem d_Md_outputs_34 : decode prog_8_method_19_code 34 = .ok (.getfield 25, 3) := by decide +kernel
theorem d_Md_outputs_37 : decode prog_8_method_19_code 37 = .ok (.iload_n 1, 1) := by decide +kernel
theorem d_Md_outputs_38 : decode prog_8_method_19_code 38 = .ok (.iaload, 1) := by decide +kernel
theorem d_Md_outputs_39 : decode prog_8_method_19_code 39 = .ok (.goto 14, 3) := by decide +kernel
theorem d_Md_outputs_42 : decode prog_8_method_19_code 42 = .ok (.aload_n 0, 1) := by decide +kernel
theorem d_Md_outputs_43 : decode prog_8_method_19_code 43 = .ok (.getfield 22, 3) := by decide +kernel
theorem d_Md_outputs_46 : decode prog_8_method_19_code 46 = .ok (.bipush 14, 2) := by decide +kernel
theorem d_Md_outputs_48 : decode prog_8_method_19_code 48 = .ok (.iload_n 1, 1) := by decide +kernel
theorem d_Md_outputs_49 : decode prog_8_method_19_code 49 = .ok (.imul, 1) := by decide +kernel
theorem d_Md_outputs_50 : decode prog_8_method_19_code 50 = .ok (.iload_n 2, 1) := by decide +kernel
theorem d_Md_outputs_51 : decode prog_8_method_19_code 51 = .ok (.iadd, 1) := by decide +kernel
theorem d_Md_outputs_52 : decode prog_8_method_19_code 52 = .ok (.iaload, 1) := by decide +kernel
theorem d_Md_outputs_53 : decode prog_8_method_19_code 53 = .ok (.ireturn, 1) := by decide +kernel
set_option maxRecDepth 20000 in
set_option maxHeartbeats 4000000 in
theorem cD_outputs (E : fk_E) (b0 : Nat) (b1 : Nat) (b2 : Nat) (b3 : Nat) (b4 : Nat) (b5 : Nat) (b6 : Nat) (b7 : Nat) (b8 : Nat) (b9 : Nat) (b10 : Nat) (b11 : Nat) (b12 : Nat) (b13 : Nat) (b14 : Nat) (b15 : Nat) (mt : Nat) (mf : Nat) (my : Nat) (mw : Bool) (mc : Nat → Nat) (mu : Nat → Nat) (mfi : Nat → Nat) (q : Nat) (k : Nat) (hq : q < 2) (hc : mc q ≤ 14) (hk : k < mc q) : fk_C E fy_Md_outputs prog_8_method_19_code 3 (some .int) 1 0 0 [.ref b0, .int (nI q), .int (nI k)] [(b0, .inr (6, [.int (nI mt), .ref b1, .ref b2, .ref b3, .ref b4, .ref b5, .ref b6, .ref b7, .ref b8, .ref b9, .int (nI mf), .ref b10, .ref b11, .ref b12, .int (nI my), .int (nI (Bool.toNat mw)), .ref b13, .ref b14, .ref b15])), fk_ai E b3 2 mc, fk_ai E b5 28 mu, fk_ai E b6 2 mfi] (S := Unit) (fun _ => some (.int (nI (mu (14 * q + k))))) (fun _ => True) (fun _ => [(b0, .inr (6, [.int (nI mt), .ref b1, .ref b2, .ref b3, .ref b4, .ref b5, .ref b6, .ref b7, .ref b8, .ref b9, .int (nI mf), .ref b10, .ref b11, .ref b12, .int (nI my), .int (nI (Bool.toNat mw)), .ref b13, .ref b14, .ref b15])), fk_ai E b3 2 mc, fk_ai E b5 28 mu, fk_ai E b6 2 mfi]) := by
  refine fk_enterI (v := fun _ => (nI (mu (14 * q + k)))) (by decide) (Nat.le_of_ble_eq_true rfl) (lv0 := [(0, .ref b0), (1, .int (nI q)), (2, .int (nI k))]) rfl ?_
  intro K hini hret
  refine fk_iload_n 1 d_Md_outputs_0 rfl ?_
  refine fk_callS (As := [.int (nI q)]) (rest := []) (is := []) (ir := [0, 1, 2, 3]) (ip := [0, 1, 2, 3]) (wc := []) (wr := [(b0, .inr (6, [.int (nI mt), .ref b1, .ref b2, .ref b3, .ref b4, .ref b5, .ref b6, .ref b7, .ref b8, .ref b9, .int (nI mf), .ref b10, .ref b11, .ref b12, .int (nI my), .int (nI (Bool.toNat mw)), .ref b13, .ref b14, .ref b15])), fk_ai E b3 2 mc, fk_ai E b5 28 mu, fk_ai E b6 2 mfi]) (w2 := fun _ => [(b0, .inr (6, [.int (nI mt), .ref b1, .ref b2, .ref b3, .ref b4, .ref b5, .ref b6, .ref b7, .ref b8, .ref b9, .int (nI mf), .ref b10, .ref b11, .ref b12, .int (nI my), .int (nI (Bool.toNat mw)), .ref b13, .ref b14, .ref b15])), fk_ai E b3 2 mc, fk_ai E b5 28 mu, fk_ai E b6 2 mfi]) (cD_notNet E q (by first | omega | assumption)) d_Md_outputs_1 fz_Md_notNet fw_627 fw_628 ⟨Nat.le_of_ble_eq_true rfl, Nat.le_of_ble_eq_true rfl⟩ rfl (Nat.le_of_ble_eq_true rfl) ⟨Nat.zero_le _, Nat.zero_le _⟩ ⟨rfl, rfl, rfl, rfl, by decide, fun _ => rfl, rfl⟩ (fun u hu1 => ?_)
  show fk_V E _ K (0, 0) [(b0, .inr (6, [.int (nI mt), .ref b1, .ref b2, .ref b3, .ref b4, .ref b5, .ref b6, .ref b7, .ref b8, .ref b9, .int (nI mf), .ref b10, .ref b11, .ref b12, .int (nI my), .int (nI (Bool.toNat mw)), .ref b13, .ref b14, .ref b15])), fk_ai E b3 2 mc, fk_ai E b5 28 mu, fk_ai E b6 2 mfi] 4 [(0, .ref b0), (1, .int (nI q)), (2, .int (nI k))] [.int (nI (Bool.toNat (decide (2 ≤ q))))]
  refine fk_if_neB (b := (decide (2 ≤ q))) d_Md_outputs_4 rfl (fun h4t => ?_) (fun h4f => ?_)
  · exact absurd (of_decide_eq_true h4t) (by omega)
  · refine fk_iload_n 2 d_Md_outputs_7 rfl ?_
    refine fk_if_lt (by omega) d_Md_outputs_8 rfl ?_
    refine fk_iload_n 2 d_Md_outputs_11 rfl ?_
    refine fk_aload_n 0 d_Md_outputs_12 rfl ?_
    refine fk_get 0 3 rfl rfl fh_Md (Nat.le_of_ble_eq_true rfl) fw_510 rfl d_Md_outputs_13 ?_
    refine fk_iload_n 1 d_Md_outputs_16 rfl ?_
    refine fk_ld_ai (i := q) 1 rfl (by omega) (by decide) d_Md_outputs_17 ?_
    refine fk_icmp_le (a := k) (b := (mc q)) (by omega) (by omega) d_Md_outputs_18 rfl (fun h18t => ?_) (fun h18f => ?_)
    · refine fk_iload_n 2 d_Md_outputs_23 rfl ?_
      refine fk_aload_n 0 d_Md_outputs_24 rfl ?_
      refine fk_get 0 3 rfl rfl fh_Md (Nat.le_of_ble_eq_true rfl) fw_510 rfl d_Md_outputs_25 ?_
      refine fk_iload_n 1 d_Md_outputs_28 rfl ?_
      refine fk_ld_ai (i := q) 1 rfl (by omega) (by decide) d_Md_outputs_29 ?_
      refine fk_icmp_ne (a := k) (b := (mc q)) (by omega) (by omega) d_Md_outputs_30 rfl (fun h30t => ?_) (fun h30f => ?_)
      · refine fk_aload_n 0 d_Md_outputs_42 rfl ?_
        refine fk_get 0 5 rfl rfl fh_Md (Nat.le_of_ble_eq_true rfl) fw_512 rfl d_Md_outputs_43 ?_
        refine fk_bipush (v := nI 14) d_Md_outputs_46 (by decide +kernel) ?_
        refine fk_iload_n 1 d_Md_outputs_48 rfl ?_
        refine fk_imul (a := 14) (b := q) d_Md_outputs_49 ?_
        refine fk_iload_n 2 d_Md_outputs_50 rfl ?_
        refine fk_iadd (a := (14 * q)) (b := k) d_Md_outputs_51 ?_
        refine fk_ld_ai (i := ((14 * q) + k)) 2 rfl (by omega) (by decide) d_Md_outputs_52 ?_
        refine fk_top (congrArg nI (show mu ((14 * q) + k) = mu (14 * q + k) from by first | omega | simp_all)) ?_
        exact hret (0, 0) _ 53 _ () d_Md_outputs_53 (trivial) (rfl)
      · omega
    · omega
set_option maxRecDepth 20000 in
set_option maxHeartbeats 4000000 in
theorem cD_outputsE (E : fk_E) (b0 : Nat) (b1 : Nat) (b2 : Nat) (b3 : Nat) (b4 : Nat) (b5 : Nat) (b6 : Nat) (b7 : Nat) (b8 : Nat) (b9 : Nat) (b10 : Nat) (b11 : Nat) (b12 : Nat) (b13 : Nat) (b14 : Nat) (b15 : Nat) (mt : Nat) (mf : Nat) (my : Nat) (mw : Bool) (mc : Nat → Nat) (mu : Nat → Nat) (mfi : Nat → Nat) (q : Nat) (k : Nat) (hq : q < 2) (hc : mc q ≤ 14) (hk : k = mc q) : fk_C E fy_Md_outputs prog_8_method_19_code 3 (some .int) 1 0 0 [.ref b0, .int (nI q), .int (nI k)] [(b0, .inr (6, [.int (nI mt), .ref b1, .ref b2, .ref b3, .ref b4, .ref b5, .ref b6, .ref b7, .ref b8, .ref b9, .int (nI mf), .ref b10, .ref b11, .ref b12, .int (nI my), .int (nI (Bool.toNat mw)), .ref b13, .ref b14, .ref b15])), fk_ai E b3 2 mc, fk_ai E b5 28 mu, fk_ai E b6 2 mfi] (S := Unit) (fun _ => some (.int (nI (mfi q)))) (fun _ => True) (fun _ => [(b0, .inr (6, [.int (nI mt), .ref b1, .ref b2, .ref b3, .ref b4, .ref b5, .ref b6, .ref b7, .ref b8, .ref b9, .int (nI mf), .ref b10, .ref b11, .ref b12, .int (nI my), .int (nI (Bool.toNat mw)), .ref b13, .ref b14, .ref b15])), fk_ai E b3 2 mc, fk_ai E b5 28 mu, fk_ai E b6 2 mfi]) := by
  refine fk_enterI (v := fun _ => (nI (mfi q))) (by decide) (Nat.le_of_ble_eq_true rfl) (lv0 := [(0, .ref b0), (1, .int (nI q)), (2, .int (nI k))]) rfl ?_
  intro K hini hret
  refine fk_iload_n 1 d_Md_outputs_0 rfl ?_
  refine fk_callS (As := [.int (nI q)]) (rest := []) (is := []) (ir := [0, 1, 2, 3]) (ip := [0, 1, 2, 3]) (wc := []) (wr := [(b0, .inr (6, [.int (nI mt), .ref b1, .ref b2, .ref b3, .ref b4, .ref b5, .ref b6, .ref b7, .ref b8, .ref b9, .int (nI mf), .ref b10, .ref b11, .ref b12, .int (nI my), .int (nI (Bool.toNat mw)), .ref b13, .ref b14, .ref b15])), fk_ai E b3 2 mc, fk_ai E b5 28 mu, fk_ai E b6 2 mfi]) (w2 := fun _ => [(b0, .inr (6, [.int (nI mt), .ref b1, .ref b2, .ref b3, .ref b4, .ref b5, .ref b6, .ref b7, .ref b8, .ref b9, .int (nI mf), .ref b10, .ref b11, .ref b12, .int (nI my), .int (nI (Bool.toNat mw)), .ref b13, .ref b14, .ref b15])), fk_ai E b3 2 mc, fk_ai E b5 28 mu, fk_ai E b6 2 mfi]) (cD_notNet E q (by first | omega | assumption)) d_Md_outputs_1 fz_Md_notNet fw_627 fw_628 ⟨Nat.le_of_ble_eq_true rfl, Nat.le_of_ble_eq_true rfl⟩ rfl (Nat.le_of_ble_eq_true rfl) ⟨Nat.zero_le _, Nat.zero_le _⟩ ⟨rfl, rfl, rfl, rfl, by decide, fun _ => rfl, rfl⟩ (fun u hu1 => ?_)
  show fk_V E _ K (0, 0) [(b0, .inr (6, [.int (nI mt), .ref b1, .ref b2, .ref b3, .ref b4, .ref b5, .ref b6, .ref b7, .ref b8, .ref b9, .int (nI mf), .ref b10, .ref b11, .ref b12, .int (nI my), .int (nI (Bool.toNat mw)), .ref b13, .ref b14, .ref b15])), fk_ai E b3 2 mc, fk_ai E b5 28 mu, fk_ai E b6 2 mfi] 4 [(0, .ref b0), (1, .int (nI q)), (2, .int (nI k))] [.int (nI (Bool.toNat (decide (2 ≤ q))))]
  refine fk_if_neB (b := (decide (2 ≤ q))) d_Md_outputs_4 rfl (fun h4t => ?_) (fun h4f => ?_)
  · exact absurd (of_decide_eq_true h4t) (by omega)
  · refine fk_iload_n 2 d_Md_outputs_7 rfl ?_
    refine fk_if_lt (by omega) d_Md_outputs_8 rfl ?_
    refine fk_iload_n 2 d_Md_outputs_11 rfl ?_
    refine fk_aload_n 0 d_Md_outputs_12 rfl ?_
    refine fk_get 0 3 rfl rfl fh_Md (Nat.le_of_ble_eq_true rfl) fw_510 rfl d_Md_outputs_13 ?_
    refine fk_iload_n 1 d_Md_outputs_16 rfl ?_
    refine fk_ld_ai (i := q) 1 rfl (by omega) (by decide) d_Md_outputs_17 ?_
    refine fk_icmp_le (a := k) (b := (mc q)) (by omega) (by omega) d_Md_outputs_18 rfl (fun h18t => ?_) (fun h18f => ?_)
    · refine fk_iload_n 2 d_Md_outputs_23 rfl ?_
      refine fk_aload_n 0 d_Md_outputs_24 rfl ?_
      refine fk_get 0 3 rfl rfl fh_Md (Nat.le_of_ble_eq_true rfl) fw_510 rfl d_Md_outputs_25 ?_
      refine fk_iload_n 1 d_Md_outputs_28 rfl ?_
      refine fk_ld_ai (i := q) 1 rfl (by omega) (by decide) d_Md_outputs_29 ?_
      refine fk_icmp_ne (a := k) (b := (mc q)) (by omega) (by omega) d_Md_outputs_30 rfl (fun h30t => ?_) (fun h30f => ?_)
      · omega
      · refine fk_aload_n 0 d_Md_outputs_33 rfl ?_
        refine fk_get 0 6 rfl rfl fh_Md (Nat.le_of_ble_eq_true rfl) fw_513 rfl d_Md_outputs_34 ?_
        refine fk_iload_n 1 d_Md_outputs_37 rfl ?_
        refine fk_ld_ai (i := q) 3 rfl (by omega) (by decide) d_Md_outputs_38 ?_
        refine fk_goto d_Md_outputs_39 rfl ?_
        exact hret (0, 0) _ 53 _ () d_Md_outputs_53 (trivial) (rfl)
    · omega
set_option maxRecDepth 20000 in
set_option maxHeartbeats 4000000 in
theorem cD_outputsK (E : fk_E) (b0 : Nat) (b1 : Nat) (b2 : Nat) (b3 : Nat) (b4 : Nat) (b5 : Nat) (b6 : Nat) (b7 : Nat) (b8 : Nat) (b9 : Nat) (b10 : Nat) (b11 : Nat) (b12 : Nat) (b13 : Nat) (b14 : Nat) (b15 : Nat) (mt : Nat) (mf : Nat) (my : Nat) (mw : Bool) (mc : Nat → Nat) (mu : Nat → Nat) (mfi : Nat → Nat) (q : Nat) (k : Nat) (hq : q < 2) (hc : mc q ≤ 14) (hk : mc q < k) (hk2 : k < 2 ^ 31) : fk_C E fy_Md_outputs prog_8_method_19_code 3 (some .int) 1 0 0 [.ref b0, .int (nI q), .int (nI k)] [(b0, .inr (6, [.int (nI mt), .ref b1, .ref b2, .ref b3, .ref b4, .ref b5, .ref b6, .ref b7, .ref b8, .ref b9, .int (nI mf), .ref b10, .ref b11, .ref b12, .int (nI my), .int (nI (Bool.toNat mw)), .ref b13, .ref b14, .ref b15])), fk_ai E b3 2 mc, fk_ai E b5 28 mu, fk_ai E b6 2 mfi] (S := Unit) (fun _ => some (.int (nI 0 - 1))) (fun _ => True) (fun _ => [(b0, .inr (6, [.int (nI mt), .ref b1, .ref b2, .ref b3, .ref b4, .ref b5, .ref b6, .ref b7, .ref b8, .ref b9, .int (nI mf), .ref b10, .ref b11, .ref b12, .int (nI my), .int (nI (Bool.toNat mw)), .ref b13, .ref b14, .ref b15])), fk_ai E b3 2 mc, fk_ai E b5 28 mu, fk_ai E b6 2 mfi]) := by
  refine fk_enterI (v := fun _ => (nI 0 - 1)) (by decide) (Nat.le_of_ble_eq_true rfl) (lv0 := [(0, .ref b0), (1, .int (nI q)), (2, .int (nI k))]) rfl ?_
  intro K hini hret
  refine fk_iload_n 1 d_Md_outputs_0 rfl ?_
  refine fk_callS (As := [.int (nI q)]) (rest := []) (is := []) (ir := [0, 1, 2, 3]) (ip := [0, 1, 2, 3]) (wc := []) (wr := [(b0, .inr (6, [.int (nI mt), .ref b1, .ref b2, .ref b3, .ref b4, .ref b5, .ref b6, .ref b7, .ref b8, .ref b9, .int (nI mf), .ref b10, .ref b11, .ref b12, .int (nI my), .int (nI (Bool.toNat mw)), .ref b13, .ref b14, .ref b15])), fk_ai E b3 2 mc, fk_ai E b5 28 mu, fk_ai E b6 2 mfi]) (w2 := fun _ => [(b0, .inr (6, [.int (nI mt), .ref b1, .ref b2, .ref b3, .ref b4, .ref b5, .ref b6, .ref b7, .ref b8, .ref b9, .int (nI mf), .ref b10, .ref b11, .ref b12, .int (nI my), .int (nI (Bool.toNat mw)), .ref b13, .ref b14, .ref b15])), fk_ai E b3 2 mc, fk_ai E b5 28 mu, fk_ai E b6 2 mfi]) (cD_notNet E q (by first | omega | assumption)) d_Md_outputs_1 fz_Md_notNet fw_627 fw_628 ⟨Nat.le_of_ble_eq_true rfl, Nat.le_of_ble_eq_true rfl⟩ rfl (Nat.le_of_ble_eq_true rfl) ⟨Nat.zero_le _, Nat.zero_le _⟩ ⟨rfl, rfl, rfl, rfl, by decide, fun _ => rfl, rfl⟩ (fun u hu1 => ?_)
  show fk_V E _ K (0, 0) [(b0, .inr (6, [.int (nI mt), .ref b1, .ref b2, .ref b3, .ref b4, .ref b5, .ref b6, .ref b7, .ref b8, .ref b9, .int (nI mf), .ref b10, .ref b11, .ref b12, .int (nI my), .int (nI (Bool.toNat mw)), .ref b13, .ref b14, .ref b15])), fk_ai E b3 2 mc, fk_ai E b5 28 mu, fk_ai E b6 2 mfi] 4 [(0, .ref b0), (1, .int (nI q)), (2, .int (nI k))] [.int (nI (Bool.toNat (decide (2 ≤ q))))]
  refine fk_if_neB (b := (decide (2 ≤ q))) d_Md_outputs_4 rfl (fun h4t => ?_) (fun h4f => ?_)
  · exact absurd (of_decide_eq_true h4t) (by omega)
  · refine fk_iload_n 2 d_Md_outputs_7 rfl ?_
    refine fk_if_lt (by omega) d_Md_outputs_8 rfl ?_
    refine fk_iload_n 2 d_Md_outputs_11 rfl ?_
    refine fk_aload_n 0 d_Md_outputs_12 rfl ?_
    refine fk_get 0 3 rfl rfl fh_Md (Nat.le_of_ble_eq_true rfl) fw_510 rfl d_Md_outputs_13 ?_
    refine fk_iload_n 1 d_Md_outputs_16 rfl ?_
    refine fk_ld_ai (i := q) 1 rfl (by omega) (by decide) d_Md_outputs_17 ?_
    refine fk_icmp_le (a := k) (b := (mc q)) (by omega) (by omega) d_Md_outputs_18 rfl (fun h18t => ?_) (fun h18f => ?_)
    · omega
    · refine fk_iconst (v := nI 0 - 1) d_Md_outputs_21 (by decide +kernel) ?_
      exact hret (0, 0) _ 22 _ () d_Md_outputs_22 (trivial) (rfl)
set_option maxRecDepth 20000 in
set_option maxHeartbeats 4000000 in
theorem cD_outputsY (E : fk_E) (b0 : Nat) (b1 : Nat) (b2 : Nat) (b3 : Nat) (b4 : Nat) (b5 : Nat) (b6 : Nat) (b7 : Nat) (b8 : Nat) (b9 : Nat) (b10 : Nat) (b11 : Nat) (b12 : Nat) (b13 : Nat) (b14 : Nat) (b15 : Nat) (mt : Nat) (mf : Nat) (my : Nat) (mw : Bool) (mc : Nat → Nat) (mu : Nat → Nat) (mfi : Nat → Nat) (q : Nat) (y : Int32) (hq : q < 2) (hy : y < 0) : fk_C E fy_Md_outputs prog_8_method_19_code 3 (some .int) 1 0 0 [.ref b0, .int (nI q), .int y] [(b0, .inr (6, [.int (nI mt), .ref b1, .ref b2, .ref b3, .ref b4, .ref b5, .ref b6, .ref b7, .ref b8, .ref b9, .int (nI mf), .ref b10, .ref b11, .ref b12, .int (nI my), .int (nI (Bool.toNat mw)), .ref b13, .ref b14, .ref b15])), fk_ai E b3 2 mc, fk_ai E b5 28 mu, fk_ai E b6 2 mfi] (S := Unit) (fun _ => some (.int (nI 0 - 1))) (fun _ => True) (fun _ => [(b0, .inr (6, [.int (nI mt), .ref b1, .ref b2, .ref b3, .ref b4, .ref b5, .ref b6, .ref b7, .ref b8, .ref b9, .int (nI mf), .ref b10, .ref b11, .ref b12, .int (nI my), .int (nI (Bool.toNat mw)), .ref b13, .ref b14, .ref b15])), fk_ai E b3 2 mc, fk_ai E b5 28 mu, fk_ai E b6 2 mfi]) := by
  refine fk_enterI (v := fun _ => (nI 0 - 1)) (by decide) (Nat.le_of_ble_eq_true rfl) (lv0 := [(0, .ref b0), (1, .int (nI q)), (2, .int y)]) rfl ?_
  intro K hini hret
  refine fk_iload_n 1 d_Md_outputs_0 rfl ?_
  refine fk_callS (As := [.int (nI q)]) (rest := []) (is := []) (ir := [0, 1, 2, 3]) (ip := [0, 1, 2, 3]) (wc := []) (wr := [(b0, .inr (6, [.int (nI mt), .ref b1, .ref b2, .ref b3, .ref b4, .ref b5, .ref b6, .ref b7, .ref b8, .ref b9, .int (nI mf), .ref b10, .ref b11, .ref b12, .int (nI my), .int (nI (Bool.toNat mw)), .ref b13, .ref b14, .ref b15])), fk_ai E b3 2 mc, fk_ai E b5 28 mu, fk_ai E b6 2 mfi]) (w2 := fun _ => [(b0, .inr (6, [.int (nI mt), .ref b1, .ref b2, .ref b3, .ref b4, .ref b5, .ref b6, .ref b7, .ref b8, .ref b9, .int (nI mf), .ref b10, .ref b11, .ref b12, .int (nI my), .int (nI (Bool.toNat mw)), .ref b13, .ref b14, .ref b15])), fk_ai E b3 2 mc, fk_ai E b5 28 mu, fk_ai E b6 2 mfi]) (cD_notNet E q (by first | omega | assumption)) d_Md_outputs_1 fz_Md_notNet fw_627 fw_628 ⟨Nat.le_of_ble_eq_true rfl, Nat.le_of_ble_eq_true rfl⟩ rfl (Nat.le_of_ble_eq_true rfl) ⟨Nat.zero_le _, Nat.zero_le _⟩ ⟨rfl, rfl, rfl, rfl, by decide, fun _ => rfl, rfl⟩ (fun u hu1 => ?_)
  show fk_V E _ K (0, 0) [(b0, .inr (6, [.int (nI mt), .ref b1, .ref b2, .ref b3, .ref b4, .ref b5, .ref b6, .ref b7, .ref b8, .ref b9, .int (nI mf), .ref b10, .ref b11, .ref b12, .int (nI my), .int (nI (Bool.toNat mw)), .ref b13, .ref b14, .ref b15])), fk_ai E b3 2 mc, fk_ai E b5 28 mu, fk_ai E b6 2 mfi] 4 [(0, .ref b0), (1, .int (nI q)), (2, .int y)] [.int (nI (Bool.toNat (decide (2 ≤ q))))]
  refine fk_if_neB (b := (decide (2 ≤ q))) d_Md_outputs_4 rfl (fun h4t => ?_) (fun h4f => ?_)
  · exact absurd (of_decide_eq_true h4t) (by omega)
  · refine fk_iload_n 2 d_Md_outputs_7 rfl ?_
    refine fk_if_ltR d_Md_outputs_8 rfl (fun h8t => ?_) (fun h8f => ?_)
    · refine fk_iconst (v := nI 0 - 1) d_Md_outputs_21 (by decide +kernel) ?_
      exact hret (0, 0) _ 22 _ () d_Md_outputs_22 (trivial) (rfl)
    · exact absurd hy h8f
set_option maxRecDepth 20000 in
set_option maxHeartbeats 4000000 in
theorem cD_outputsO (E : fk_E) (b0 : Nat) (b1 : Nat) (b2 : Nat) (b3 : Nat) (b4 : Nat) (b5 : Nat) (b6 : Nat) (b7 : Nat) (b8 : Nat) (b9 : Nat) (b10 : Nat) (b11 : Nat) (b12 : Nat) (b13 : Nat) (b14 : Nat) (b15 : Nat) (mt : Nat) (mf : Nat) (my : Nat) (mw : Bool) (q : Nat) (y : Int32) (h : 2 ≤ q) (hq : q < 2 ^ 31) : fk_C E fy_Md_outputs prog_8_method_19_code 3 (some .int) 1 0 0 [.ref b0, .int (nI q), .int y] [(b0, .inr (6, [.int (nI mt), .ref b1, .ref b2, .ref b3, .ref b4, .ref b5, .ref b6, .ref b7, .ref b8, .ref b9, .int (nI mf), .ref b10, .ref b11, .ref b12, .int (nI my), .int (nI (Bool.toNat mw)), .ref b13, .ref b14, .ref b15]))] (S := Unit) (fun _ => some (.int (nI 0 - 1))) (fun _ => True) (fun _ => [(b0, .inr (6, [.int (nI mt), .ref b1, .ref b2, .ref b3, .ref b4, .ref b5, .ref b6, .ref b7, .ref b8, .ref b9, .int (nI mf), .ref b10, .ref b11, .ref b12, .int (nI my), .int (nI (Bool.toNat mw)), .ref b13, .ref b14, .ref b15]))]) := by
  refine fk_enterI (v := fun _ => (nI 0 - 1)) (by decide) (Nat.le_of_ble_eq_true rfl) (lv0 := [(0, .ref b0), (1, .int (nI q)), (2, .int y)]) rfl ?_
  intro K hini hret
  refine fk_iload_n 1 d_Md_outputs_0 rfl ?_
  refine fk_callS (As := [.int (nI q)]) (rest := []) (is := []) (ir := [0]) (ip := [0]) (wc := []) (wr := [(b0, .inr (6, [.int (nI mt), .ref b1, .ref b2, .ref b3, .ref b4, .ref b5, .ref b6, .ref b7, .ref b8, .ref b9, .int (nI mf), .ref b10, .ref b11, .ref b12, .int (nI my), .int (nI (Bool.toNat mw)), .ref b13, .ref b14, .ref b15]))]) (w2 := fun _ => [(b0, .inr (6, [.int (nI mt), .ref b1, .ref b2, .ref b3, .ref b4, .ref b5, .ref b6, .ref b7, .ref b8, .ref b9, .int (nI mf), .ref b10, .ref b11, .ref b12, .int (nI my), .int (nI (Bool.toNat mw)), .ref b13, .ref b14, .ref b15]))]) (cD_notNet E q (by first | omega | assumption)) d_Md_outputs_1 fz_Md_notNet fw_627 fw_628 ⟨Nat.le_of_ble_eq_true rfl, Nat.le_of_ble_eq_true rfl⟩ rfl (Nat.le_of_ble_eq_true rfl) ⟨Nat.zero_le _, Nat.zero_le _⟩ ⟨rfl, rfl, rfl, rfl, by decide, fun _ => rfl, rfl⟩ (fun u hu1 => ?_)
  show fk_V E _ K (0, 0) [(b0, .inr (6, [.int (nI mt), .ref b1, .ref b2, .ref b3, .ref b4, .ref b5, .ref b6, .ref b7, .ref b8, .ref b9, .int (nI mf), .ref b10, .ref b11, .ref b12, .int (nI my), .int (nI (Bool.toNat mw)), .ref b13, .ref b14, .ref b15]))] 4 [(0, .ref b0), (1, .int (nI q)), (2, .int y)] [.int (nI (Bool.toNat (decide (2 ≤ q))))]
  refine fk_if_neB (b := (decide (2 ≤ q))) d_Md_outputs_4 rfl (fun h4t => ?_) (fun h4f => ?_)
  · refine fk_iconst (v := nI 0 - 1) d_Md_outputs_21 (by decide +kernel) ?_
    exact hret (0, 0) _ 22 _ () d_Md_outputs_22 (trivial) (rfl)
  · exact absurd (of_decide_eq_false h4f) (by omega)
set_option maxRecDepth 20000 in
set_option maxHeartbeats 4000000 in
theorem cD_outputsM (E : fk_E) (b0 : Nat) (b1 : Nat) (b2 : Nat) (b3 : Nat) (b4 : Nat) (b5 : Nat) (b6 : Nat) (b7 : Nat) (b8 : Nat) (b9 : Nat) (b10 : Nat) (b11 : Nat) (b12 : Nat) (b13 : Nat) (b14 : Nat) (b15 : Nat) (mt : Nat) (mf : Nat) (my : Nat) (mw : Bool) (x : Int32) (y : Int32) (hx : x < 0) : fk_C E fy_Md_outputs prog_8_method_19_code 3 (some .int) 1 0 0 [.ref b0, .int x, .int y] [(b0, .inr (6, [.int (nI mt), .ref b1, .ref b2, .ref b3, .ref b4, .ref b5, .ref b6, .ref b7, .ref b8, .ref b9, .int (nI mf), .ref b10, .ref b11, .ref b12, .int (nI my), .int (nI (Bool.toNat mw)), .ref b13, .ref b14, .ref b15]))] (S := Unit) (fun _ => some (.int (nI 0 - 1))) (fun _ => True) (fun _ => [(b0, .inr (6, [.int (nI mt), .ref b1, .ref b2, .ref b3, .ref b4, .ref b5, .ref b6, .ref b7, .ref b8, .ref b9, .int (nI mf), .ref b10, .ref b11, .ref b12, .int (nI my), .int (nI (Bool.toNat mw)), .ref b13, .ref b14, .ref b15]))]) := by
  refine fk_enterI (v := fun _ => (nI 0 - 1)) (by decide) (Nat.le_of_ble_eq_true rfl) (lv0 := [(0, .ref b0), (1, .int x), (2, .int y)]) rfl ?_
  intro K hini hret
  refine fk_iload_n 1 d_Md_outputs_0 rfl ?_
  refine fk_callS (As := [.int x]) (rest := []) (is := []) (ir := [0]) (ip := [0]) (wc := []) (wr := [(b0, .inr (6, [.int (nI mt), .ref b1, .ref b2, .ref b3, .ref b4, .ref b5, .ref b6, .ref b7, .ref b8, .ref b9, .int (nI mf), .ref b10, .ref b11, .ref b12, .int (nI my), .int (nI (Bool.toNat mw)), .ref b13, .ref b14, .ref b15]))]) (w2 := fun _ => [(b0, .inr (6, [.int (nI mt), .ref b1, .ref b2, .ref b3, .ref b4, .ref b5, .ref b6, .ref b7, .ref b8, .ref b9, .int (nI mf), .ref b10, .ref b11, .ref b12, .int (nI my), .int (nI (Bool.toNat mw)), .ref b13, .ref b14, .ref b15]))]) (cD_notNetM E x (by first | omega | assumption)) d_Md_outputs_1 fz_Md_notNet fw_627 fw_628 ⟨Nat.le_of_ble_eq_true rfl, Nat.le_of_ble_eq_true rfl⟩ rfl (Nat.le_of_ble_eq_true rfl) ⟨Nat.zero_le _, Nat.zero_le _⟩ ⟨rfl, rfl, rfl, rfl, by decide, fun _ => rfl, rfl⟩ (fun u hu1 => ?_)
  show fk_V E _ K (0, 0) [(b0, .inr (6, [.int (nI mt), .ref b1, .ref b2, .ref b3, .ref b4, .ref b5, .ref b6, .ref b7, .ref b8, .ref b9, .int (nI mf), .ref b10, .ref b11, .ref b12, .int (nI my), .int (nI (Bool.toNat mw)), .ref b13, .ref b14, .ref b15]))] 4 [(0, .ref b0), (1, .int x), (2, .int y)] [.int (nI (Bool.toNat true))]
  refine fk_if_neB (b := true) d_Md_outputs_4 rfl (fun h4t => ?_) (fun h4f => ?_)
  · refine fk_iconst (v := nI 0 - 1) d_Md_outputs_21 (by decide +kernel) ?_
    exact hret (0, 0) _ 22 _ () d_Md_outputs_22 (trivial) (rfl)
  · exact absurd h4f (by decide)
theorem d_Md_activities_0 : decode prog_8_method_20_code 0 = .ok (.iload_n 1, 1) := by decide +kernel
theorem d_Md_activities_1 : decode prog_8_method_20_code 1 = .ok (.iconst 1, 1) := by decide +kernel
theorem d_Md_activities_2 : decode prog_8_method_20_code 2 = .ok (.if_icmp .ne 10, 3) := by decide +kernel
theorem d_Md_activities_5 : decode prog_8_method_20_code 5 = .ok (.aload_n 0, 1) := by decide +kernel
theorem d_Md_activities_6 : decode prog_8_method_20_code 6 = .ok (.getfield 31, 3) := by decide +kernel
theorem d_Md_activities_9 : decode prog_8_method_20_code 9 = .ok (.iconst 1, 1) := by decide +kernel
theorem d_Md_activities_10 : decode prog_8_method_20_code 10 = .ok (.iaload, 1) := by decide +kernel
theorem d_Md_activities_11 : decode prog_8_method_20_code 11 = .ok (.ireturn, 1) := by decide +kernel
theorem d_Md_activities_12 : decode prog_8_method_20_code 12 = .ok (.aload_n 0, 1) := by decide +kernel
theorem d_Md_activities_13 : decode prog_8_method_20_code 13 = .ok (.getfield 25, 3) := by decide +kernel
theorem d_Md_activities_16 : decode prog_8_method_20_code 16 = .ok (.iconst 0, 1) := by decide +kernel
theorem d_Md_activities_17 : decode prog_8_method_20_code 17 = .ok (.iaload, 1) := by decide +kernel
theorem d_Md_activities_18 : decode prog_8_method_20_code 18 = .ok (.aload_n 0, 1) := by decide +kernel
theorem d_Md_activities_19 : decode prog_8_method_20_code 19 = .ok (.getfield 28, 3) := by decide +kernel
theorem d_Md_activities_22 : decode prog_8_method_20_code 22 = .ok (.iconst 0, 1) := by decide +kernel
theorem d_Md_activities_23 : decode prog_8_method_20_code 23 = .ok (.iaload, 1) := by decide +kernel
theorem d_Md_activities_24 : decode prog_8_method_20_code 24 = .ok (.ior, 1) := by decide +kernel
theorem d_Md_activities_25 : decode prog_8_method_20_code 25 = .ok (.istore_n 2, 1) := by decide +kernel
theorem d_Md_activities_26 : decode prog_8_method_20_code 26 = .ok (.iconst 0, 1) := by decide +kernel
theorem d_Md_activities_27 : decode prog_8_method_20_code 27 = .ok (.istore_n 3, 1) := by decide +kernel
theorem d_Md_activities_28 : decode prog_8_method_20_code 28 = .ok (.iload_n 3, 1) := by decide +kernel
theorem d_Md_activities_29 : decode prog_8_method_20_code 29 = .ok (.aload_n 0, 1) := by decide +kernel
theorem d_Md_activities_30 : decode prog_8_method_20_code 30 = .ok (.getfield 16, 3) := by decide +kernel
theorem d_Md_activities_33 : decode prog_8_method_20_code 33 = .ok (.iconst 0, 1) := by decide +kernel
theorem d_Md_activities_34 : decode prog_8_method_20_code 34 = .ok (.iaload, 1) := by decide +kernel
theorem d_Md_activities_35 : decode prog_8_method_20_code 35 = .ok (.if_icmp .ge 25, 3) := by decide +kernel
theorem d_Md_activities_38 : decode prog_8_method_20_code 38 = .ok (.iload_n 2, 1) := by decide +kernel
theorem d_Md_activities_39 : decode prog_8_method_20_code 39 = .ok (.aload_n 0, 1) := by decide +kernel
theorem d_Md_activities_40 : decode prog_8_method_20_code 40 = .ok (.getfield 19, 3) := by decide +kernel
theorem d_Md_activities_43 : decode prog_8_method_20_code 43 = .ok (.iload_n 3, 1) := by decide +kernel
theorem d_Md_activities_44 : decode prog_8_method_20_code 44 = .ok (.iaload, 1) := by decide +kernel
theorem d_Md_activities_45 : decode prog_8_method_20_code 45 = .ok (.aload_n 0, 1) := by decide +kernel
theorem d_Md_activities_46 : decode prog_8_method_20_code 46 = .ok (.getfield 22, 3) := by decide +kernel
theorem d_Md_activities_49 : decode prog_8_method_20_code 49 = .ok (.iload_n 3, 1) := by decide +kernel
theorem d_Md_activities_50 : decode prog_8_method_20_code 50 = .ok (.iaload, 1) := by decide +kernel
theorem d_Md_activities_51 : decode prog_8_method_20_code 51 = .ok (.ior, 1) := by decide +kernel
theorem d_Md_activities_52 : decode prog_8_method_20_code 52 = .ok (.ior, 1) := by decide +kernel
theorem d_Md_activities_53 : decode prog_8_method_20_code 53 = .ok (.istore_n 2, 1) := by decide +kernel
theorem d_Md_activities_54 : decode prog_8_method_20_code 54 = .ok (.iinc 3 1, 3) := by decide +kernel
theorem d_Md_activities_57 : decode prog_8_method_20_code 57 = .ok (.goto (-29), 3) := by decide +kernel
theorem d_Md_activities_60 : decode prog_8_method_20_code 60 = .ok (.iload_n 2, 1) := by decide +kernel
theorem d_Md_activities_61 : decode prog_8_method_20_code 61 = .ok (.ireturn, 1) := by decide +kernel
set_option maxRecDepth 20000 in
set_option maxHeartbeats 4000000 in
theorem cD_activities (E : fk_E) (b0 : Nat) (b1 : Nat) (b2 : Nat) (b3 : Nat) (b4 : Nat) (b5 : Nat) (b6 : Nat) (b7 : Nat) (b8 : Nat) (b9 : Nat) (b10 : Nat) (b11 : Nat) (b12 : Nat) (b13 : Nat) (b14 : Nat) (b15 : Nat) (mt : Nat) (mf : Nat) (my : Nat) (mw : Bool) (mc : Nat → Nat) (mi : Nat → Nat) (mu : Nat → Nat) (mfi : Nat → Nat) (mla : Nat → Nat) (mac : Nat → Nat) (q : Nat) (hN : fr_N mc mi mu mfi mla) (hq : q < 2) : fk_C E fy_Md_activities prog_8_method_20_code 4 (some .int) 0 0 0 [.ref b0, .int (nI q)] [(b0, .inr (6, [.int (nI mt), .ref b1, .ref b2, .ref b3, .ref b4, .ref b5, .ref b6, .ref b7, .ref b8, .ref b9, .int (nI mf), .ref b10, .ref b11, .ref b12, .int (nI my), .int (nI (Bool.toNat mw)), .ref b13, .ref b14, .ref b15])), fk_ai E b3 2 mc, fk_ai E b4 28 mi, fk_ai E b5 28 mu, fk_ai E b6 2 mfi, fk_ai E b7 2 mla, fk_ai E b8 2 mac] (S := Unit) (fun _ => some (.int (nI (fr_me mc mi mu mfi mla mac q)))) (fun _ => True) (fun _ => [(b0, .inr (6, [.int (nI mt), .ref b1, .ref b2, .ref b3, .ref b4, .ref b5, .ref b6, .ref b7, .ref b8, .ref b9, .int (nI mf), .ref b10, .ref b11, .ref b12, .int (nI my), .int (nI (Bool.toNat mw)), .ref b13, .ref b14, .ref b15])), fk_ai E b3 2 mc, fk_ai E b4 28 mi, fk_ai E b5 28 mu, fk_ai E b6 2 mfi, fk_ai E b7 2 mla, fk_ai E b8 2 mac]) := by
  refine fk_enterI (v := fun _ => (nI (fr_me mc mi mu mfi mla mac q))) (by decide) (Nat.le_of_ble_eq_true rfl) (lv0 := [(0, .ref b0), (1, .int (nI q))]) rfl ?_
  intro K hini hret
  have g0 := (hN.2 0 (by decide)).1
  refine fk_iload_n 1 d_Md_activities_0 rfl ?_
  refine fk_iconst (v := nI 1) d_Md_activities_1 (by decide +kernel) ?_
  refine fk_icmp_ne (a := q) (b := 1) (by omega) (by omega) d_Md_activities_2 rfl (fun h2t => ?_) (fun h2f => ?_)
  · refine fk_aload_n 0 d_Md_activities_12 rfl ?_
    refine fk_get 0 6 rfl rfl fh_Md (Nat.le_of_ble_eq_true rfl) fw_513 rfl d_Md_activities_13 ?_
    refine fk_iconst (v := nI 0) d_Md_activities_16 (by decide +kernel) ?_
    refine fk_ld_ai (i := 0) 4 rfl (by omega) (by decide) d_Md_activities_17 ?_
    refine fk_aload_n 0 d_Md_activities_18 rfl ?_
    refine fk_get 0 7 rfl rfl fh_Md (Nat.le_of_ble_eq_true rfl) fw_514 rfl d_Md_activities_19 ?_
    refine fk_iconst (v := nI 0) d_Md_activities_22 (by decide +kernel) ?_
    refine fk_ld_ai (i := 0) 5 rfl (by omega) (by decide) d_Md_activities_23 ?_
    refine fk_ior (a := (mfi 0)) (b := (mla 0)) d_Md_activities_24 ?_
    refine fk_top (show (nI ((mfi 0) ||| (mla 0))) = (nI (fs_mem 0 (mfi 0) (mla 0) mi mu 0)) from congrArg nI (fr_mem0 _ _ _ _)) ?_
    refine fk_istore_n (lv' := [(0, .ref b0), (1, .int (nI q)), (2, .int (nI (fs_mem 0 (mfi 0) (mla 0) mi mu 0)))]) d_Md_activities_25 rfl (Nat.le_of_ble_eq_true rfl) [1, 2, 0] rfl ?_
    refine fk_iconst (v := nI 0) d_Md_activities_26 (by decide +kernel) ?_
    refine fk_istore_n (lv' := [(0, .ref b0), (1, .int (nI q)), (2, .int (nI (fs_mem 0 (mfi 0) (mla 0) mi mu 0))), (3, .int (nI 0))]) d_Md_activities_27 rfl (Nat.le_of_ble_eq_true rfl) [1, 2, 3, 0] rfl ?_
    have L28 : ∀ (fuel : Nat) (k : Nat), (k ≤ mc 0) → mc 0 - k < fuel → fk_V E (prog_8_method_20_code, fy_Md_activities.cls, 4, fk_rm 0 0 0) K (0, 0) [(b0, .inr (6, [.int (nI mt), .ref b1, .ref b2, .ref b3, .ref b4, .ref b5, .ref b6, .ref b7, .ref b8, .ref b9, .int (nI mf), .ref b10, .ref b11, .ref b12, .int (nI my), .int (nI (Bool.toNat mw)), .ref b13, .ref b14, .ref b15])), fk_ai E b3 2 mc, fk_ai E b4 28 mi, fk_ai E b5 28 mu, fk_ai E b6 2 mfi, fk_ai E b7 2 mla, fk_ai E b8 2 mac] 28 [(0, .ref b0), (1, .int (nI q)), (2, .int (nI (fs_mem 0 (mfi 0) (mla 0) mi mu k))), (3, .int (nI k))] [] := by
      intro fuel
      induction fuel with
      | zero => intro k _ hm; exact absurd hm (Nat.not_lt_zero _)
      | succ fuel ih =>
        intro k h1 hm28
        have ih28 := ih
        clear ih
        refine fk_iload_n 3 d_Md_activities_28 rfl ?_
        refine fk_aload_n 0 d_Md_activities_29 rfl ?_
        refine fk_get 0 3 rfl rfl fh_Md (Nat.le_of_ble_eq_true rfl) fw_510 rfl d_Md_activities_30 ?_
        refine fk_iconst (v := nI 0) d_Md_activities_33 (by decide +kernel) ?_
        refine fk_ld_ai (i := 0) 1 rfl (by omega) (by decide) d_Md_activities_34 ?_
        refine fk_icmp_ge (a := k) (b := (mc 0)) (by omega) (by omega) d_Md_activities_35 rfl (fun h35t => ?_) (fun h35f => ?_)
        · refine fk_iload_n 2 d_Md_activities_60 rfl ?_
          refine fk_top (congrArg nI (show fs_mem 0 (mfi 0) (mla 0) mi mu k = fr_me mc mi mu mfi mla mac q from by unfold fr_me; rw [if_neg h2t, show mc 0 = k by omega])) ?_
          exact hret (0, 0) _ 61 _ () d_Md_activities_61 (trivial) (rfl)
        · refine fk_iload_n 2 d_Md_activities_38 rfl ?_
          refine fk_aload_n 0 d_Md_activities_39 rfl ?_
          refine fk_get 0 4 rfl rfl fh_Md (Nat.le_of_ble_eq_true rfl) fw_511 rfl d_Md_activities_40 ?_
          refine fk_iload_n 3 d_Md_activities_43 rfl ?_
          refine fk_ld_ai (i := k) 2 rfl (by omega) (by decide) d_Md_activities_44 ?_
          refine fk_aload_n 0 d_Md_activities_45 rfl ?_
          refine fk_get 0 5 rfl rfl fh_Md (Nat.le_of_ble_eq_true rfl) fw_512 rfl d_Md_activities_46 ?_
          refine fk_iload_n 3 d_Md_activities_49 rfl ?_
          refine fk_ld_ai (i := k) 3 rfl (by omega) (by decide) d_Md_activities_50 ?_
          refine fk_ior (a := (mi k)) (b := (mu k)) d_Md_activities_51 ?_
          refine fk_ior (a := (fs_mem 0 (mfi 0) (mla 0) mi mu k)) (b := ((mi k) ||| (mu k))) d_Md_activities_52 ?_
          refine fk_istore_n (lv' := [(0, .ref b0), (1, .int (nI q)), (2, .int (nI ((fs_mem 0 (mfi 0) (mla 0) mi mu k) ||| ((mi k) ||| (mu k))))), (3, .int (nI k))]) d_Md_activities_53 rfl (Nat.le_of_ble_eq_true rfl) [1, 2, 0, 3] rfl ?_
          refine fk_iinc (j := 3) (lv' := [(0, .ref b0), (1, .int (nI q)), (2, .int (nI ((fs_mem 0 (mfi 0) (mla 0) mi mu k) ||| ((mi k) ||| (mu k))))), (3, .int (nI (k + 1)))]) (k + 1) d_Md_activities_54 rfl (nI_1 k) (Nat.le_of_ble_eq_true rfl) [1, 2, 3, 0] rfl ?_
          refine fk_goto d_Md_activities_57 rfl ?_
          refine ih28 (k + 1) ?_ ?_
          · first | omega | assumption | exact Nat.zero_le _
          · omega
    refine L28 _ 0 ?_ (Nat.lt_succ_self _)
    · first | omega | assumption | exact Nat.zero_le _
  · refine fk_aload_n 0 d_Md_activities_5 rfl ?_
    refine fk_get 0 8 rfl rfl fh_Md (Nat.le_of_ble_eq_true rfl) fw_515 rfl d_Md_activities_6 ?_
    refine fk_iconst (v := nI 1) d_Md_activities_9 (by decide +kernel) ?_
    refine fk_ld_ai (i := 1) 6 rfl (by omega) (by decide) d_Md_activities_10 ?_
    refine fk_top (congrArg nI (show mac 1 = fr_me mc mi mu mfi mla mac q from by unfold fr_me; rw [if_pos h2f])) ?_
    exact hret (0, 0) _ 11 _ () d_Md_activities_11 (trivial) (rfl)
theorem d_Md_takes_0 : decode prog_8_method_23_code 0 = .ok (.iload_n 2, 1) := by decide +kernel
theorem d_Md_takes_1 : decode prog_8_method_23_code 1 = .ok (.bipush 14, 2) := by decide +kernel
theorem d_Md_takes_3 : decode prog_8_method_23_code 3 = .ok (.if_icmp .ge 39, 3) := by decide +kernel
theorem d_Md_takes_6 : decode prog_8_method_23_code 6 = .ok (.iload_n 2, 1) := by decide +kernel
theorem d_Md_takes_7 : decode prog_8_method_23_code 7 = .ok (.aload_n 0, 1) := by decide +kernel
theorem d_Md_takes_8 : decode prog_8_method_23_code 8 = .ok (.getfield 16, 3) := by decide +kernel
theorem d_Md_takes_11 : decode prog_8_method_23_code 11 = .ok (.iload_n 1, 1) := by decide +kernel
theorem d_Md_takes_12 : decode prog_8_method_23_code 12 = .ok (.iaload, 1) := by decide +kernel
theorem d_Md_takes_13 : decode prog_8_method_23_code 13 = .ok (.if_icmp .ge 25, 3) := by decide +kernel
theorem d_Md_takes_16 : decode prog_8_method_23_code 16 = .ok (.aload_n 0, 1) := by decide +kernel
theorem d_Md_takes_17 : decode prog_8_method_23_code 17 = .ok (.getfield 22, 3) := by decide +kernel
theorem d_Md_takes_20 : decode prog_8_method_23_code 20 = .ok (.bipush 14, 2) := by decide +kernel
theorem d_Md_takes_22 : decode prog_8_method_23_code 22 = .ok (.iload_n 1, 1) := by decide +kernel
theorem d_Md_takes_23 : decode prog_8_method_23_code 23 = .ok (.imul, 1) := by decide +kernel
theorem d_Md_takes_24 : decode prog_8_method_23_code 24 = .ok (.iload_n 2, 1) := by decide +kernel
theorem d_Md_takes_25 : decode prog_8_method_23_code 25 = .ok (.iadd, 1) := by decide +kernel
theorem d_Md_takes_26 : decode prog_8_method_23_code 26 = .ok (.iaload, 1) := by decide +kernel
theorem d_Md_takes_27 : decode prog_8_method_23_code 27 = .ok (.iload_n 3, 1) := by decide +kernel
theorem d_Md_takes_28 : decode prog_8_method_23_code 28 = .ok (.invokestatic 66, 3) := by decide +kernel
theorem d_Md_takes_31 : decode prog_8_method_23_code 31 = .ok (.ifCond .eq 7, 3) := by decide +kernel
theorem d_Md_takes_34 : decode prog_8_method_23_code 34 = .ok (.iconst 1, 1) := by decide +kernel
theorem d_Md_takes_35 : decode prog_8_method_23_code 35 = .ok (.goto 31, 3) := by decide +kernel
theorem d_Md_takes_38 : decode prog_8_method_23_code 38 = .ok (.iconst 0, 1) := by decide +kernel
theorem d_Md_takes_39 : decode prog_8_method_23_code 39 = .ok (.goto 27, 3) := by decide +kernel
theorem d_Md_takes_42 : decode prog_8_method_23_code 42 = .ok (.iload_n 2, 1) := by decide +kernel
theorem d_Md_takes_43 : decode prog_8_method_23_code 43 = .ok (.bipush 14, 2) := by decide +kernel
theorem d_Md_takes_45 : decode prog_8_method_23_code 45 = .ok (.if_icmp .ne 20, 3) := by decide +kernel
theorem d_Md_takes_48 : decode prog_8_method_23_code 48 = .ok (.aload_n 0, 1) := by decide +kernel
theorem d_Md_takes_49 : decode prog_8_method_23_code 49 = .ok (.getfield 25, 3) := by decide +kernel
theorem d_Md_takes_52 : decode prog_8_method_23_code 52 = .ok (.iload_n 1, 1) := by decide +kernel
theorem d_Md_takes_53 : decode prog_8_method_23_code 53 = .ok (.iaload, 1) := by decide +kernel
theorem d_Md_takes_54 : decode prog_8_method_23_code 54 = .ok (.iload_n 3, 1) := by decide +kernel
theorem d_Md_takes_55 : decode prog_8_method_23_code 55 = .ok (.invokestatic 66, 3) := by decide +kernel
theorem d_Md_takes_58 : decode prog_8_method_23_code 58 = .ok (.ifCond .eq 7, 3) := by decide +kernel
theorem d_Md_takes_61 : decode prog_8_method_23_code 61 = .ok (.iconst 1, 1) := by decide +kernel
theorem d_Md_takes_62 : decode prog_8_method_23_code 62 = .ok (.goto 4, 3) := by decide +kernel
theorem d_Md_takes_65 : decode prog_8_method_23_code 65 = .ok (.iconst 0, 1) := by decide +kernel
theorem d_Md_takes_66 : decode prog_8_method_23_code 66 = .ok (.ireturn, 1) := by decide +kernel
set_option maxRecDepth 20000 in
set_option maxHeartbeats 4000000 in
theorem cD_takes (E : fk_E) (b0 : Nat) (b1 : Nat) (b2 : Nat) (b3 : Nat) (b4 : Nat) (b5 : Nat) (b6 : Nat) (b7 : Nat) (b8 : Nat) (b9 : Nat) (b10 : Nat) (b11 : Nat) (b12 : Nat) (b13 : Nat) (b14 : Nat) (b15 : Nat) (mt : Nat) (mf : Nat) (my : Nat) (mw : Bool) (mc : Nat → Nat) (mi : Nat → Nat) (mu : Nat → Nat) (mfi : Nat → Nat) (mla : Nat → Nat) (q : Nat) (p : Nat) (a : Nat) (hN : fr_N mc mi mu mfi mla) (hq : q < 2) (hp : p < 16) (ha : a < 7) : fk_C E fy_Md_takes prog_8_method_23_code 4 (some .boolean) 1 0 0 [.ref b0, .int (nI q), .int (nI p), .int (nI a)] [(b0, .inr (6, [.int (nI mt), .ref b1, .ref b2, .ref b3, .ref b4, .ref b5, .ref b6, .ref b7, .ref b8, .ref b9, .int (nI mf), .ref b10, .ref b11, .ref b12, .int (nI my), .int (nI (Bool.toNat mw)), .ref b13, .ref b14, .ref b15])), fk_ai E b3 2 mc, fk_ai E b5 28 mu, fk_ai E b6 2 mfi] (S := Unit) (fun _ => some (.int (nI (Bool.toNat (fs_tak (fr_O mc mu mfi q) a (fr_cp p)))))) (fun _ => True) (fun _ => [(b0, .inr (6, [.int (nI mt), .ref b1, .ref b2, .ref b3, .ref b4, .ref b5, .ref b6, .ref b7, .ref b8, .ref b9, .int (nI mf), .ref b10, .ref b11, .ref b12, .int (nI my), .int (nI (Bool.toNat mw)), .ref b13, .ref b14, .ref b15])), fk_ai E b3 2 mc, fk_ai E b5 28 mu, fk_ai E b6 2 mfi]) := by
  refine fk_enterZ (v := fun _ => fs_tak (fr_O mc mu mfi q) a (fr_cp p)) (by decide) (Nat.le_of_ble_eq_true rfl) (lv0 := [(0, .ref b0), (1, .int (nI q)), (2, .int (nI p)), (3, .int (nI a))]) rfl ?_
  intro K hini hret
  have g0 := hN.2 q hq
  refine fk_iload_n 2 d_Md_takes_0 rfl ?_
  refine fk_bipush (v := nI 14) d_Md_takes_1 (by decide +kernel) ?_
  refine fk_icmp_ge (a := p) (b := 14) (by omega) (by omega) d_Md_takes_3 rfl (fun h3t => ?_) (fun h3f => ?_)
  · refine fk_iload_n 2 d_Md_takes_42 rfl ?_
    refine fk_bipush (v := nI 14) d_Md_takes_43 (by decide +kernel) ?_
    refine fk_icmp_ne (a := p) (b := 14) (by omega) (by omega) d_Md_takes_45 rfl (fun h45t => ?_) (fun h45f => ?_)
    · refine fk_iconst (v := nI 0) d_Md_takes_65 (by decide +kernel) ?_
      refine fk_top (fn_rf (b := fs_tak (fr_O mc mu mfi q) a (fr_cp p)) (by first | (rw [fr_tak_in h3f h13f]; assumption) | rw [fr_tak_no h3f h13t] | (rw [h45f, fr_tak_14]; assumption) | rw [show p = 15 by omega, fr_tak_15])) ?_
      exact hret (0, 0) _ 66 _ () d_Md_takes_66 (trivial) (rfl)
    · refine fk_aload_n 0 d_Md_takes_48 rfl ?_
      refine fk_get 0 6 rfl rfl fh_Md (Nat.le_of_ble_eq_true rfl) fw_513 rfl d_Md_takes_49 ?_
      refine fk_iload_n 1 d_Md_takes_52 rfl ?_
      refine fk_ld_ai (i := q) 3 rfl (by omega) (by decide) d_Md_takes_53 ?_
      refine fk_iload_n 3 d_Md_takes_54 rfl ?_
      refine fk_callS (As := [.int (nI (mfi q)), .int (nI a)]) (rest := []) (is := []) (ir := [0, 1, 2, 3]) (ip := [0, 1, 2, 3]) (wc := []) (wr := [(b0, .inr (6, [.int (nI mt), .ref b1, .ref b2, .ref b3, .ref b4, .ref b5, .ref b6, .ref b7, .ref b8, .ref b9, .int (nI mf), .ref b10, .ref b11, .ref b12, .int (nI my), .int (nI (Bool.toNat mw)), .ref b13, .ref b14, .ref b15])), fk_ai E b3 2 mc, fk_ai E b5 28 mu, fk_ai E b6 2 mfi]) (w2 := fun _ => [(b0, .inr (6, [.int (nI mt), .ref b1, .ref b2, .ref b3, .ref b4, .ref b5, .ref b6, .ref b7, .ref b8, .ref b9, .int (nI mf), .ref b10, .ref b11, .ref b12, .int (nI my), .int (nI (Bool.toNat mw)), .ref b13, .ref b14, .ref b15])), fk_ai E b3 2 mc, fk_ai E b5 28 mu, fk_ai E b6 2 mfi]) (cD_has E (mfi q) a (by first | omega | assumption) (by first | omega | assumption)) d_Md_takes_55 fz_Md_has fw_604 fw_605 ⟨Nat.le_of_ble_eq_true rfl, Nat.le_of_ble_eq_true rfl⟩ rfl (Nat.le_of_ble_eq_true rfl) ⟨Nat.zero_le _, Nat.zero_le _⟩ ⟨rfl, rfl, rfl, rfl, by decide, fun _ => rfl, rfl⟩ (fun u hu55 => ?_)
      show fk_V E _ K (0, 0) [(b0, .inr (6, [.int (nI mt), .ref b1, .ref b2, .ref b3, .ref b4, .ref b5, .ref b6, .ref b7, .ref b8, .ref b9, .int (nI mf), .ref b10, .ref b11, .ref b12, .int (nI my), .int (nI (Bool.toNat mw)), .ref b13, .ref b14, .ref b15])), fk_ai E b3 2 mc, fk_ai E b5 28 mu, fk_ai E b6 2 mfi] 58 [(0, .ref b0), (1, .int (nI q)), (2, .int (nI p)), (3, .int (nI a))] [.int (nI (Bool.toNat (Nat.testBit (mfi q) a)))]
      refine fk_if_eqB (b := (Nat.testBit (mfi q) a)) d_Md_takes_58 rfl (fun h58t => ?_) (fun h58f => ?_)
      · refine fk_iconst (v := nI 0) d_Md_takes_65 (by decide +kernel) ?_
        refine fk_top (fn_rf (b := fs_tak (fr_O mc mu mfi q) a (fr_cp p)) (by first | (rw [fr_tak_in h3f h13f]; assumption) | rw [fr_tak_no h3f h13t] | (rw [h45f, fr_tak_14]; assumption) | rw [show p = 15 by omega, fr_tak_15])) ?_
        exact hret (0, 0) _ 66 _ () d_Md_takes_66 (trivial) (rfl)
      · refine fk_iconst (v := nI 1) d_Md_takes_61 (by decide +kernel) ?_
        refine fk_goto d_Md_takes_62 rfl ?_
        refine fk_top (fn_rt (b := fs_tak (fr_O mc mu mfi q) a (fr_cp p)) (by first | (rw [fr_tak_in h3f h13f]; assumption) | rw [fr_tak_no h3f h13t] | (rw [h45f, fr_tak_14]; assumption) | rw [show p = 15 by omega, fr_tak_15])) ?_
        exact hret (0, 0) _ 66 _ () d_Md_takes_66 (trivial) (rfl)
  · refine fk_iload_n 2 d_Md_takes_6 rfl ?_
    refine fk_aload_n 0 d_Md_takes_7 rfl ?_
    refine fk_get 0 3 rfl rfl fh_Md (Nat.le_of_ble_eq_true rfl) fw_510 rfl d_Md_takes_8 ?_
    refine fk_iload_n 1 d_Md_takes_11 rfl ?_
    refine fk_ld_ai (i := q) 1 rfl (by omega) (by decide) d_Md_takes_12 ?_
    refine fk_icmp_ge (a := p) (b := (mc q)) (by omega) (by omega) d_Md_takes_13 rfl (fun h13t => ?_) (fun h13f => ?_)
    · refine fk_iconst (v := nI 0) d_Md_takes_38 (by decide +kernel) ?_
      refine fk_goto d_Md_takes_39 rfl ?_
      refine fk_top (fn_rf (b := fs_tak (fr_O mc mu mfi q) a (fr_cp p)) (by first | (rw [fr_tak_in h3f h13f]; assumption) | rw [fr_tak_no h3f h13t] | (rw [h45f, fr_tak_14]; assumption) | rw [show p = 15 by omega, fr_tak_15])) ?_
      exact hret (0, 0) _ 66 _ () d_Md_takes_66 (trivial) (rfl)
    · have g1 := hN.1 (14 * q + p) (by omega)
      refine fk_aload_n 0 d_Md_takes_16 rfl ?_
      refine fk_get 0 5 rfl rfl fh_Md (Nat.le_of_ble_eq_true rfl) fw_512 rfl d_Md_takes_17 ?_
      refine fk_bipush (v := nI 14) d_Md_takes_20 (by decide +kernel) ?_
      refine fk_iload_n 1 d_Md_takes_22 rfl ?_
      refine fk_imul (a := 14) (b := q) d_Md_takes_23 ?_
      refine fk_iload_n 2 d_Md_takes_24 rfl ?_
      refine fk_iadd (a := (14 * q)) (b := p) d_Md_takes_25 ?_
      refine fk_ld_ai (i := ((14 * q) + p)) 2 rfl (by omega) (by decide) d_Md_takes_26 ?_
      refine fk_iload_n 3 d_Md_takes_27 rfl ?_
      refine fk_callS (As := [.int (nI (mu ((14 * q) + p))), .int (nI a)]) (rest := []) (is := []) (ir := [0, 1, 2, 3]) (ip := [0, 1, 2, 3]) (wc := []) (wr := [(b0, .inr (6, [.int (nI mt), .ref b1, .ref b2, .ref b3, .ref b4, .ref b5, .ref b6, .ref b7, .ref b8, .ref b9, .int (nI mf), .ref b10, .ref b11, .ref b12, .int (nI my), .int (nI (Bool.toNat mw)), .ref b13, .ref b14, .ref b15])), fk_ai E b3 2 mc, fk_ai E b5 28 mu, fk_ai E b6 2 mfi]) (w2 := fun _ => [(b0, .inr (6, [.int (nI mt), .ref b1, .ref b2, .ref b3, .ref b4, .ref b5, .ref b6, .ref b7, .ref b8, .ref b9, .int (nI mf), .ref b10, .ref b11, .ref b12, .int (nI my), .int (nI (Bool.toNat mw)), .ref b13, .ref b14, .ref b15])), fk_ai E b3 2 mc, fk_ai E b5 28 mu, fk_ai E b6 2 mfi]) (cD_has E (mu ((14 * q) + p)) a (by first | omega | assumption) (by first | omega | assumption)) d_Md_takes_28 fz_Md_has fw_604 fw_605 ⟨Nat.le_of_ble_eq_true rfl, Nat.le_of_ble_eq_true rfl⟩ rfl (Nat.le_of_ble_eq_true rfl) ⟨Nat.zero_le _, Nat.zero_le _⟩ ⟨rfl, rfl, rfl, rfl, by decide, fun _ => rfl, rfl⟩ (fun u hu28 => ?_)
      show fk_V E _ K (0, 0) [(b0, .inr (6, [.int (nI mt), .ref b1, .ref b2, .ref b3, .ref b4, .ref b5, .ref b6, .ref b7, .ref b8, .ref b9, .int (nI mf), .ref b10, .ref b11, .ref b12, .int (nI my), .int (nI (Bool.toNat mw)), .ref b13, .ref b14, .ref b15])), fk_ai E b3 2 mc, fk_ai E b5 28 mu, fk_ai E b6 2 mfi] 31 [(0, .ref b0), (1, .int (nI q)), (2, .int (nI p)), (3, .int (nI a))] [.int (nI (Bool.toNat (Nat.testBit (mu ((14 * q) + p)) a)))]
      refine fk_if_eqB (b := (Nat.testBit (mu ((14 * q) + p)) a)) d_Md_takes_31 rfl (fun h31t => ?_) (fun h31f => ?_)
      · refine fk_iconst (v := nI 0) d_Md_takes_38 (by decide +kernel) ?_
        refine fk_goto d_Md_takes_39 rfl ?_
        refine fk_top (fn_rf (b := fs_tak (fr_O mc mu mfi q) a (fr_cp p)) (by first | (rw [fr_tak_in h3f h13f]; assumption) | rw [fr_tak_no h3f h13t] | (rw [h45f, fr_tak_14]; assumption) | rw [show p = 15 by omega, fr_tak_15])) ?_
        exact hret (0, 0) _ 66 _ () d_Md_takes_66 (trivial) (rfl)
      · refine fk_iconst (v := nI 1) d_Md_takes_34 (by decide +kernel) ?_
        refine fk_goto d_Md_takes_35 rfl ?_
        refine fk_top (fn_rt (b := fs_tak (fr_O mc mu mfi q) a (fr_cp p)) (by first | (rw [fr_tak_in h3f h13f]; assumption) | rw [fr_tak_no h3f h13t] | (rw [h45f, fr_tak_14]; assumption) | rw [show p = 15 by omega, fr_tak_15])) ?_
        exact hret (0, 0) _ 66 _ () d_Md_takes_66 (trivial) (rfl)
theorem d_Md_gives_0 : decode prog_8_method_24_code 0 = .ok (.iload_n 2, 1) := by decide +kernel
theorem d_Md_gives_1 : decode prog_8_method_24_code 1 = .ok (.bipush 14, 2) := by decide +kernel
theorem d_Md_gives_3 : decode prog_8_method_24_code 3 = .ok (.if_icmp .ge 39, 3) := by decide +kernel
theorem d_Md_gives_6 : decode prog_8_method_24_code 6 = .ok (.iload_n 2, 1) := by decide +kernel
theorem d_Md_gives_7 : decode prog_8_method_24_code 7 = .ok (.aload_n 0, 1) := by decide +kernel
theorem d_Md_gives_8 : decode prog_8_method_24_code 8 = .ok (.getfield 16, 3) := by decide +kernel
theorem d_Md_gives_11 : decode prog_8_method_24_code 11 = .ok (.iload_n 1, 1) := by decide +kernel
theorem d_Md_gives_12 : decode prog_8_method_24_code 12 = .ok (.iaload, 1) := by decide +kernel
theorem d_Md_gives_13 : decode prog_8_method_24_code 13 = .ok (.if_icmp .ge 25, 3) := by decide +kernel
theorem d_Md_gives_16 : decode prog_8_method_24_code 16 = .ok (.aload_n 0, 1) := by decide +kernel
theorem d_Md_gives_17 : decode prog_8_method_24_code 17 = .ok (.getfield 19, 3) := by decide +kernel
theorem d_Md_gives_20 : decode prog_8_method_24_code 20 = .ok (.bipush 14, 2) := by decide +kernel
theorem d_Md_gives_22 : decode prog_8_method_24_code 22 = .ok (.iload_n 1, 1) := by decide +kernel
theorem d_Md_gives_23 : decode prog_8_method_24_code 23 = .ok (.imul, 1) := by decide +kernel
theorem d_Md_gives_24 : decode prog_8_method_24_code 24 = .ok (.iload_n 2, 1) := by decide +kernel
theorem d_Md_gives_25 : decode prog_8_method_24_code 25 = .ok (.iadd, 1) := by decide +kernel
theorem d_Md_gives_26 : decode prog_8_method_24_code 26 = .ok (.iaload, 1) := by decide +kernel
theorem d_Md_gives_27 : decode prog_8_method_24_code 27 = .ok (.iload_n 3, 1) := by decide +kernel
theorem d_Md_gives_28 : decode prog_8_method_24_code 28 = .ok (.invokestatic 66, 3) := by decide +kernel
theorem d_Md_gives_31 : decode prog_8_method_24_code 31 = .ok (.ifCond .eq 7, 3) := by decide +kernel
theorem d_Md_gives_34 : decode prog_8_method_24_code 34 = .ok (.iconst 1, 1) := by decide +kernel
theorem d_Md_gives_35 : decode prog_8_method_24_code 35 = .ok (.goto 31, 3) := by decide +kernel
theorem d_Md_gives_38 : decode prog_8_method_24_code 38 = .ok (.iconst 0, 1) := by decide +kernel
theorem d_Md_gives_39 : decode prog_8_method_24_code 39 = .ok (.goto 27, 3) := by decide +kernel
theorem d_Md_gives_42 : decode prog_8_method_24_code 42 = .ok (.iload_n 2, 1) := by decide +kernel
theorem d_Md_gives_43 : decode prog_8_method_24_code 43 = .ok (.bipush 15, 2) := by decide +kernel
theorem d_Md_gives_45 : decode prog_8_method_24_code 45 = .ok (.if_icmp .ne 20, 3) := by decide +kernel
theorem d_Md_gives_48 : decode prog_8_method_24_code 48 = .ok (.aload_n 0, 1) := by decide +kernel
theorem d_Md_gives_49 : decode prog_8_method_24_code 49 = .ok (.getfield 28, 3) := by decide +kernel
theorem d_Md_gives_52 : decode prog_8_method_24_code 52 = .ok (.iload_n 1, 1) := by decide +kernel
theorem d_Md_gives_53 : decode prog_8_method_24_code 53 = .ok (.iaload, 1) := by decide +kernel
theorem d_Md_gives_54 : decode prog_8_method_24_code 54 = .ok (.iload_n 3, 1) := by decide +kernel
theorem d_Md_gives_55 : decode prog_8_method_24_code 55 = .ok (.invokestatic 66, 3) := by decide +kernel
theorem d_Md_gives_58 : decode prog_8_method_24_code 58 = .ok (.ifCond .eq 7, 3) := by decide +kernel
theorem d_Md_gives_61 : decode prog_8_method_24_code 61 = .ok (.iconst 1, 1) := by decide +kernel
theorem d_Md_gives_62 : decode prog_8_method_24_code 62 = .ok (.goto 4, 3) := by decide +kernel
theorem d_Md_gives_65 : decode prog_8_method_24_code 65 = .ok (.iconst 0, 1) := by decide +kernel
theorem d_Md_gives_66 : decode prog_8_method_24_code 66 = .ok (.ireturn, 1) := by decide +kernel
set_option maxRecDepth 20000 in
set_option maxHeartbeats 4000000 in
theorem cD_gives (E : fk_E) (b0 : Nat) (b1 : Nat) (b2 : Nat) (b3 : Nat) (b4 : Nat) (b5 : Nat) (b6 : Nat) (b7 : Nat) (b8 : Nat) (b9 : Nat) (b10 : Nat) (b11 : Nat) (b12 : Nat) (b13 : Nat) (b14 : Nat) (b15 : Nat) (mt : Nat) (mf : Nat) (my : Nat) (mw : Bool) (mc : Nat → Nat) (mi : Nat → Nat) (mu : Nat → Nat) (mfi : Nat → Nat) (mla : Nat → Nat) (q : Nat) (p : Nat) (a : Nat) (hN : fr_N mc mi mu mfi mla) (hq : q < 2) (hp : p < 16) (ha : a < 7) : fk_C E fy_Md_gives prog_8_method_24_code 4 (some .boolean) 1 0 0 [.ref b0, .int (nI q), .int (nI p), .int (nI a)] [(b0, .inr (6, [.int (nI mt), .ref b1, .ref b2, .ref b3, .ref b4, .ref b5, .ref b6, .ref b7, .ref b8, .ref b9, .int (nI mf), .ref b10, .ref b11, .ref b12, .int (nI my), .int (nI (Bool.toNat mw)), .ref b13, .ref b14, .ref b15])), fk_ai E b3 2 mc, fk_ai E b4 28 mi, fk_ai E b7 2 mla] (S := Unit) (fun _ => some (.int (nI (Bool.toNat (fs_tak (fr_I mc mi mla q) a (fr_cp p)))))) (fun _ => True) (fun _ => [(b0, .inr (6, [.int (nI mt), .ref b1, .ref b2, .ref b3, .ref b4, .ref b5, .ref b6, .ref b7, .ref b8, .ref b9, .int (nI mf), .ref b10, .ref b11, .ref b12, .int (nI my), .int (nI (Bool.toNat mw)), .ref b13, .ref b14, .ref b15])), fk_ai E b3 2 mc, fk_ai E b4 28 mi, fk_ai E b7 2 mla]) := by
  refine fk_enterZ (v := fun _ => fs_tak (fr_I mc mi mla q) a (fr_cp p)) (by decide) (Nat.le_of_ble_eq_true rfl) (lv0 := [(0, .ref b0), (1, .int (nI q)), (2, .int (nI p)), (3, .int (nI a))]) rfl ?_
  intro K hini hret
  have g0 := hN.2 q hq
  refine fk_iload_n 2 d_Md_gives_0 rfl ?_
  refine fk_bipush (v := nI 14) d_Md_gives_1 (by decide +kernel) ?_
  refine fk_icmp_ge (a := p) (b := 14) (by omega) (by omega) d_Md_gives_3 rfl (fun h3t => ?_) (fun h3f => ?_)
  · refine fk_iload_n 2 d_Md_gives_42 rfl ?_
    refine fk_bipush (v := nI 15) d_Md_gives_43 (by decide +kernel) ?_
    refine fk_icmp_ne (a := p) (b := 15) (by omega) (by omega) d_Md_gives_45 rfl (fun h45t => ?_) (fun h45f => ?_)
    · refine fk_iconst (v := nI 0) d_Md_gives_65 (by decide +kernel) ?_
      refine fk_top (fn_rf (b := fs_tak (fr_I mc mi mla q) a (fr_cp p)) (by first | (rw [fr_giv_in h3f h13f]; assumption) | rw [fr_giv_no h3f h13t] | (rw [h45f, fr_giv_15]; assumption) | rw [show p = 14 by omega, fr_giv_14])) ?_
      exact hret (0, 0) _ 66 _ () d_Md_gives_66 (trivial) (rfl)
    · refine fk_aload_n 0 d_Md_gives_48 rfl ?_
      refine fk_get 0 7 rfl rfl fh_Md (Nat.le_of_ble_eq_true rfl) fw_514 rfl d_Md_gives_49 ?_
      refine fk_iload_n 1 d_Md_gives_52 rfl ?_
      refine fk_ld_ai (i := q) 3 rfl (by omega) (by decide) d_Md_gives_53 ?_
      refine fk_iload_n 3 d_Md_gives_54 rfl ?_
      refine fk_callS (As := [.int (nI (mla q)), .int (nI a)]) (rest := []) (is := []) (ir := [0, 1, 2, 3]) (ip := [0, 1, 2, 3]) (wc := []) (wr := [(b0, .inr (6, [.int (nI mt), .ref b1, .ref b2, .ref b3, .ref b4, .ref b5, .ref b6, .ref b7, .ref b8, .ref b9, .int (nI mf), .ref b10, .ref b11, .ref b12, .int (nI my), .int (nI (Bool.toNat mw)), .ref b13, .ref b14, .ref b15])), fk_ai E b3 2 mc, fk_ai E b4 28 mi, fk_ai E b7 2 mla]) (w2 := fun _ => [(b0, .inr (6, [.int (nI mt), .ref b1, .ref b2, .ref b3, .ref b4, .ref b5, .ref b6, .ref b7, .ref b8, .ref b9, .int (nI mf), .ref b10, .ref b11, .ref b12, .int (nI my), .int (nI (Bool.toNat mw)), .ref b13, .ref b14, .ref b15])), fk_ai E b3 2 mc, fk_ai E b4 28 mi, fk_ai E b7 2 mla]) (cD_has E (mla q) a (by first | omega | assumption) (by first | omega | assumption)) d_Md_gives_55 fz_Md_has fw_604 fw_605 ⟨Nat.le_of_ble_eq_true rfl, Nat.le_of_ble_eq_true rfl⟩ rfl (Nat.le_of_ble_eq_true rfl) ⟨Nat.zero_le _, Nat.zero_le _⟩ ⟨rfl, rfl, rfl, rfl, by decide, fun _ => rfl, rfl⟩ (fun u hu55 => ?_)
      show fk_V E _ K (0, 0) [(b0, .inr (6, [.int (nI mt), .ref b1, .ref b2, .ref b3, .ref b4, .ref b5, .ref b6, .ref b7, .ref b8, .ref b9, .int (nI mf), .ref b10, .ref b11, .ref b12, .int (nI my), .int (nI (Bool.toNat mw)), .ref b13, .ref b14, .ref b15])), fk_ai E b3 2 mc, fk_ai E b4 28 mi, fk_ai E b7 2 mla] 58 [(0, .ref b0), (1, .int (nI q)), (2, .int (nI p)), (3, .int (nI a))] [.int (nI (Bool.toNat (Nat.testBit (mla q) a)))]
      refine fk_if_eqB (b := (Nat.testBit (mla q) a)) d_Md_gives_58 rfl (fun h58t => ?_) (fun h58f => ?_)
      · refine fk_iconst (v := nI 0) d_Md_gives_65 (by decide +kernel) ?_
        refine fk_top (fn_rf (b := fs_tak (fr_I mc mi mla q) a (fr_cp p)) (by first | (rw [fr_giv_in h3f h13f]; assumption) | rw [fr_giv_no h3f h13t] | (rw [h45f, fr_giv_15]; assumption) | rw [show p = 14 by omega, fr_giv_14])) ?_
        exact hret (0, 0) _ 66 _ () d_Md_gives_66 (trivial) (rfl)
      · refine fk_iconst (v := nI 1) d_Md_gives_61 (by decide +kernel) ?_
        refine fk_goto d_Md_gives_62 rfl ?_
        refine fk_top (fn_rt (b := fs_tak (fr_I mc mi mla q) a (fr_cp p)) (by first | (rw [fr_giv_in h3f h13f]; assumption) | rw [fr_giv_no h3f h13t] | (rw [h45f, fr_giv_15]; assumption) | rw [show p = 14 by omega, fr_giv_14])) ?_
        exact hret (0, 0) _ 66 _ () d_Md_gives_66 (trivial) (rfl)
  · refine fk_iload_n 2 d_Md_gives_6 rfl ?_
    refine fk_aload_n 0 d_Md_gives_7 rfl ?_
    refine fk_get 0 3 rfl rfl fh_Md (Nat.le_of_ble_eq_true rfl) fw_510 rfl d_Md_gives_8 ?_
    refine fk_iload_n 1 d_Md_gives_11 rfl ?_
    refine fk_ld_ai (i := q) 1 rfl (by omega) (by decide) d_Md_gives_12 ?_
    refine fk_icmp_ge (a := p) (b := (mc q)) (by omega) (by omega) d_Md_gives_13 rfl (fun h13t => ?_) (fun h13f => ?_)
    · refine fk_iconst (v := nI 0) d_Md_gives_38 (by decide +kernel) ?_
      refine fk_goto d_Md_gives_39 rfl ?_
      refine fk_top (fn_rf (b := fs_tak (fr_I mc mi mla q) a (fr_cp p)) (by first | (rw [fr_giv_in h3f h13f]; assumption) | rw [fr_giv_no h3f h13t] | (rw [h45f, fr_giv_15]; assumption) | rw [show p = 14 by omega, fr_giv_14])) ?_
      exact hret (0, 0) _ 66 _ () d_Md_gives_66 (trivial) (rfl)
    · have g1 := hN.1 (14 * q + p) (by omega)
      refine fk_aload_n 0 d_Md_gives_16 rfl ?_
      refine fk_get 0 4 rfl rfl fh_Md (Nat.le_of_ble_eq_true rfl) fw_511 rfl d_Md_gives_17 ?_
      refine fk_bipush (v := nI 14) d_Md_gives_20 (by decide +kernel) ?_
      refine fk_iload_n 1 d_Md_gives_22 rfl ?_
      refine fk_imul (a := 14) (b := q) d_Md_gives_23 ?_
      refine fk_iload_n 2 d_Md_gives_24 rfl ?_
      refine fk_iadd (a := (14 * q)) (b := p) d_Md_gives_25 ?_
      refine fk_ld_ai (i := ((14 * q) + p)) 2 rfl (by omega) (by decide) d_Md_gives_26 ?_
      refine fk_iload_n 3 d_Md_gives_27 rfl ?_
      refine fk_callS (As := [.int (nI (mi ((14 * q) + p))), .int (nI a)]) (rest := []) (is := []) (ir := [0, 1, 2, 3]) (ip := [0, 1, 2, 3]) (wc := []) (wr := [(b0, .inr (6, [.int (nI mt), .ref b1, .ref b2, .ref b3, .ref b4, .ref b5, .ref b6, .ref b7, .ref b8, .ref b9, .int (nI mf), .ref b10, .ref b11, .ref b12, .int (nI my), .int (nI (Bool.toNat mw)), .ref b13, .ref b14, .ref b15])), fk_ai E b3 2 mc, fk_ai E b4 28 mi, fk_ai E b7 2 mla]) (w2 := fun _ => [(b0, .inr (6, [.int (nI mt), .ref b1, .ref b2, .ref b3, .ref b4, .ref b5, .ref b6, .ref b7, .ref b8, .ref b9, .int (nI mf), .ref b10, .ref b11, .ref b12, .int (nI my), .int (nI (Bool.toNat mw)), .ref b13, .ref b14, .ref b15])), fk_ai E b3 2 mc, fk_ai E b4 28 mi, fk_ai E b7 2 mla]) (cD_has E (mi ((14 * q) + p)) a (by first | omega | assumption) (by first | omega | assumption)) d_Md_gives_28 fz_Md_has fw_604 fw_605 ⟨Nat.le_of_ble_eq_true rfl, Nat.le_of_ble_eq_true rfl⟩ rfl (Nat.le_of_ble_eq_true rfl) ⟨Nat.zero_le _, Nat.zero_le _⟩ ⟨rfl, rfl, rfl, rfl, by decide, fun _ => rfl, rfl⟩ (fun u hu28 => ?_)
      show fk_V E _ K (0, 0) [(b0, .inr (6, [.int (nI mt), .ref b1, .ref b2, .ref b3, .ref b4, .ref b5, .ref b6, .ref b7, .ref b8, .ref b9, .int (nI mf), .ref b10, .ref b11, .ref b12, .int (nI my), .int (nI (Bool.toNat mw)), .ref b13, .ref b14, .ref b15])), fk_ai E b3 2 mc, fk_ai E b4 28 mi, fk_ai E b7 2 mla] 31 [(0, .ref b0), (1, .int (nI q)), (2, .int (nI p)), (3, .int (nI a))] [.int (nI (Bool.toNat (Nat.testBit (mi ((14 * q) + p)) a)))]
      refine fk_if_eqB (b := (Nat.testBit (mi ((14 * q) + p)) a)) d_Md_gives_31 rfl (fun h31t => ?_) (fun h31f => ?_)
      · refine fk_iconst (v := nI 0) d_Md_gives_38 (by decide +kernel) ?_
        refine fk_goto d_Md_gives_39 rfl ?_
        refine fk_top (fn_rf (b := fs_tak (fr_I mc mi mla q) a (fr_cp p)) (by first | (rw [fr_giv_in h3f h13f]; assumption) | rw [fr_giv_no h3f h13t] | (rw [h45f, fr_giv_15]; assumption) | rw [show p = 14 by omega, fr_giv_14])) ?_
        exact hret (0, 0) _ 66 _ () d_Md_gives_66 (trivial) (rfl)
      · refine fk_iconst (v := nI 1) d_Md_gives_34 (by decide +kernel) ?_
        refine fk_goto d_Md_gives_35 rfl ?_
        refine fk_top (fn_rt (b := fs_tak (fr_I mc mi mla q) a (fr_cp p)) (by first | (rw [fr_giv_in h3f h13f]; assumption) | rw [fr_giv_no h3f h13t] | (rw [h45f, fr_giv_15]; assumption) | rw [show p = 14 by omega, fr_giv_14])) ?_
        exact hret (0, 0) _ 66 _ () d_Md_gives_66 (trivial) (rfl)
theorem d_Md_initial_0 : decode prog_8_method_21_code 0 = .ok (.iconst 0, 1) := by decide +kernel
theorem d_Md_initial_1 : decode prog_8_method_21_code 1 = .ok (.istore_n 1, 1) := by decide +kernel
theorem d_Md_initial_2 : decode prog_8_method_21_code 2 = .ok (.iload_n 1, 1) := by decide +kernel
theorem d_Md_initial_3 : decode prog_8_method_21_code 3 = .ok (.bipush 16, 2) := by decide +kernel
theorem d_Md_initial_5 : decode prog_8_method_21_code 5 = .ok (.if_icmp .ge 26, 3) := by decide +kernel
theorem d_Md_initial_8 : decode prog_8_method_21_code 8 = .ok (.aload_n 0, 1) := by decide +kernel
theorem d_Md_initial_9 : decode prog_8_method_21_code 9 = .ok (.getfield 43, 3) := by decide +kernel
theorem d_Md_initial_12 : decode prog_8_method_21_code 12 = .ok (.iload_n 1, 1) := by decide +kernel
theorem d_Md_initial_13 : decode prog_8_method_21_code 13 = .ok (.iload_n 1, 1) := by decide +kernel
theorem d_Md_initial_14 : decode prog_8_method_21_code 14 = .ok (.bipush 14, 2) := by decide +kernel
theorem d_Md_initial_16 : decode prog_8_method_21_code 16 = .ok (.if_icmp .ne 7, 3) := by decide +kernel
theorem d_Md_initial_19 : decode prog_8_method_21_code 19 = .ok (.iconst 1, 1) := by decide +kernel
theorem d_Md_initial_20 : decode prog_8_method_21_code 20 = .ok (.goto 4, 3) := by decide +kernel
theorem d_Md_initial_23 : decode prog_8_method_21_code 23 = .ok (.iconst 0, 1) := by decide +kernel
theorem d_Md_initial_24 : decode prog_8_method_21_code 24 = .ok (.iastore, 1) := by decide +kernel
theorem d_Md_initial_25 : decode prog_8_method_21_code 25 = .ok (.iinc 1 1, 3) := by decide +kernel
theorem d_Md_initial_28 : decode prog_8_method_21_code 28 = .ok (.goto (-26), 3) := by decide +kernel
theorem d_Md_initial_31 : decode prog_8_method_21_code 31 = .ok (.return_, 1) := by decide +kernel
set_option maxRecDepth 20000 in
set_option maxHeartbeats 4000000 in
theorem cD_initial (E : fk_E) (b0 : Nat) (b1 : Nat) (b2 : Nat) (b3 : Nat) (b4 : Nat) (b5 : Nat) (b6 : Nat) (b7 : Nat) (b8 : Nat) (b9 : Nat) (b10 : Nat) (b11 : Nat) (b12 : Nat) (b13 : Nat) (b14 : Nat) (b15 : Nat) (mt : Nat) (mf : Nat) (my : Nat) (mw : Bool) (tk : Nat → Nat)  : fk_C E fy_Md_initial prog_8_method_21_code 2 none 0 0 0 [.ref b0] [(b0, .inr (6, [.int (nI mt), .ref b1, .ref b2, .ref b3, .ref b4, .ref b5, .ref b6, .ref b7, .ref b8, .ref b9, .int (nI mf), .ref b10, .ref b11, .ref b12, .int (nI my), .int (nI (Bool.toNat mw)), .ref b13, .ref b14, .ref b15])), fk_ai E b12 16 tk] (S := (Nat → Nat)) (fun (u : (Nat → Nat)) => none) (fun (u : (Nat → Nat)) => fr_T u 1) (fun (u : (Nat → Nat)) => [(b0, .inr (6, [.int (nI mt), .ref b1, .ref b2, .ref b3, .ref b4, .ref b5, .ref b6, .ref b7, .ref b8, .ref b9, .int (nI mf), .ref b10, .ref b11, .ref b12, .int (nI my), .int (nI (Bool.toNat mw)), .ref b13, .ref b14, .ref b15])), fk_ai E b12 16 u]) := by
  refine fk_enterV (by decide) (Nat.le_of_ble_eq_true rfl) (lv0 := [(0, .ref b0)]) rfl ?_
  intro K hini hret
  refine fk_iconst (v := nI 0) d_Md_initial_0 (by decide +kernel) ?_
  refine fk_istore_n (lv' := [(0, .ref b0), (1, .int (nI 0))]) d_Md_initial_1 rfl (Nat.le_of_ble_eq_true rfl) [1, 0] rfl ?_
  have L2 : ∀ (fuel : Nat) (i : Nat) (t1 : Nat → Nat), (i ≤ 16) → (∀ j, j < i → t1 j = fm_dg 1 (fr_cp j)) → 16 - i < fuel → fk_V E (prog_8_method_21_code, fy_Md_initial.cls, 2, fk_rm 0 0 0) K (0, 0) [(b0, .inr (6, [.int (nI mt), .ref b1, .ref b2, .ref b3, .ref b4, .ref b5, .ref b6, .ref b7, .ref b8, .ref b9, .int (nI mf), .ref b10, .ref b11, .ref b12, .int (nI my), .int (nI (Bool.toNat mw)), .ref b13, .ref b14, .ref b15])), fk_ai E b12 16 t1] 2 [(0, .ref b0), (1, .int (nI i))] [] := by
    intro fuel
    induction fuel with
    | zero => intro i t1 _ _ hm; exact absurd hm (Nat.not_lt_zero _)
    | succ fuel ih =>
      intro i t1 h1 h2 hm2
      have ih2 := ih
      clear ih
      refine fk_iload_n 1 d_Md_initial_2 rfl ?_
      refine fk_bipush (v := nI 16) d_Md_initial_3 (by decide +kernel) ?_
      refine fk_icmp_ge (a := i) (b := 16) (by omega) (by omega) d_Md_initial_5 rfl (fun h5t => ?_) (fun h5f => ?_)
      · have hpp : fr_T t1 1 := fun j hj => h2 j (by omega)
        exact hret (0, 0) _ 31 _ t1 d_Md_initial_31 (hpp) (rfl)
      · refine fk_aload_n 0 d_Md_initial_8 rfl ?_
        refine fk_get 0 13 rfl rfl fh_Md (Nat.le_of_ble_eq_true rfl) fw_520 rfl d_Md_initial_9 ?_
        refine fk_iload_n 1 d_Md_initial_12 rfl ?_
        refine fk_iload_n 1 d_Md_initial_13 rfl ?_
        refine fk_bipush (v := nI 14) d_Md_initial_14 (by decide +kernel) ?_
        refine fk_icmp_ne (a := i) (b := 14) (by omega) (by omega) d_Md_initial_16 rfl (fun h16t => ?_) (fun h16f => ?_)
        · refine fk_iconst (v := nI 0) d_Md_initial_23 (by decide +kernel) ?_
          refine fk_st_ai (i := i) (x := 0) (w' := [(b0, .inr (6, [.int (nI mt), .ref b1, .ref b2, .ref b3, .ref b4, .ref b5, .ref b6, .ref b7, .ref b8, .ref b9, .int (nI mf), .ref b10, .ref b11, .ref b12, .int (nI my), .int (nI (Bool.toNat mw)), .ref b13, .ref b14, .ref b15])), fk_ai E b12 16 (va_up t1 i 0)]) 1 rfl (by omega) (by decide) d_Md_initial_24 rfl ?_
          refine fk_iinc (j := 1) (lv' := [(0, .ref b0), (1, .int (nI (i + 1)))]) (i + 1) d_Md_initial_25 rfl (nI_1 i) (Nat.le_of_ble_eq_true rfl) [1, 0] rfl ?_
          refine fk_goto d_Md_initial_28 rfl ?_
          refine ih2 _ _ ?_ ?_ ?_
          · first | omega | assumption | exact Nat.zero_le _
          · intro j hj
            rcases Nat.lt_or_ge j i with q | q
            · rw [va_up_ne _ _ (by omega)]; exact h2 j q
            · rw [show j = i by omega, va_up_self, fr_cp1 i (by omega)]
              first | rw [if_pos h16f] | rw [if_neg h16t]
          · omega
        · refine fk_iconst (v := nI 1) d_Md_initial_19 (by decide +kernel) ?_
          refine fk_goto d_Md_initial_20 rfl ?_
          refine fk_st_ai (i := i) (x := 1) (w' := [(b0, .inr (6, [.int (nI mt), .ref b1, .ref b2, .ref b3, .ref b4, .ref b5, .ref b6, .ref b7, .ref b8, .ref b9, .int (nI mf), .ref b10, .ref b11, .ref b12, .int (nI my), .int (nI (Bool.toNat mw)), .ref b13, .ref b14, .ref b15])), fk_ai E b12 16 (va_up t1 i 1)]) 1 rfl (by omega) (by decide) d_Md_initial_24 rfl ?_
          refine fk_iinc (j := 1) (lv' := [(0, .ref b0), (1, .int (nI (i + 1)))]) (i + 1) d_Md_initial_25 rfl (nI_1 i) (Nat.le_of_ble_eq_true rfl) [1, 0] rfl ?_
          refine fk_goto d_Md_initial_28 rfl ?_
          refine ih2 _ _ ?_ ?_ ?_
          · first | omega | assumption | exact Nat.zero_le _
          · intro j hj
            rcases Nat.lt_or_ge j i with q | q
            · rw [va_up_ne _ _ (by omega)]; exact h2 j q
            · rw [show j = i by omega, va_up_self, fr_cp1 i (by omega)]
              first | rw [if_pos h16f] | rw [if_neg h16t]
          · omega
  refine L2 _ _ _ ?_ ?_ (Nat.lt_succ_self _)
  · first | omega | assumption | exact Nat.zero_le _
  · exact fun j hj => absurd hj (Nat.not_lt_zero j)
theorem d_Md_isFinal_0 : decode prog_8_method_22_code 0 = .ok (.aload_n 0, 1) := by decide +kernel
theorem d_Md_isFinal_1 : decode prog_8_method_22_code 1 = .ok (.getfield 43, 3) := by decide +kernel
theorem d_Md_isFinal_4 : decode prog_8_method_22_code 4 = .ok (.bipush 15, 2) := by decide +kernel
theorem d_Md_isFinal_6 : decode prog_8_method_22_code 6 = .ok (.iaload, 1) := by decide +kernel
theorem d_Md_isFinal_7 : decode prog_8_method_22_code 7 = .ok (.iconst 1, 1) := by decide +kernel
theorem d_Md_isFinal_8 : decode prog_8_method_22_code 8 = .ok (.if_icmp .ne 7, 3) := by decide +kernel
theorem d_Md_isFinal_11 : decode prog_8_method_22_code 11 = .ok (.iconst 1, 1) := by decide +kernel
theorem d_Md_isFinal_12 : decode prog_8_method_22_code 12 = .ok (.goto 4, 3) := by decide +kernel
theorem d_Md_isFinal_15 : decode prog_8_method_22_code 15 = .ok (.iconst 0, 1) := by decide +kernel
theorem d_Md_isFinal_16 : decode prog_8_method_22_code 16 = .ok (.istore_n 1, 1) := by decide +kernel
theorem d_Md_isFinal_17 : decode prog_8_method_22_code 17 = .ok (.iconst 0, 1) := by decide +kernel
theorem d_Md_isFinal_18 : decode prog_8_method_22_code 18 = .ok (.istore_n 2, 1) := by decide +kernel
theorem d_Md_isFinal_19 : decode prog_8_method_22_code 19 = .ok (.iload_n 2, 1) := by decide +kernel
theorem d_Md_isFinal_20 : decode prog_8_method_22_code 20 = .ok (.bipush 15, 2) := by decide +kernel
theorem d_Md_isFinal_22 : decode prog_8_method_22_code 22 = .ok (.if_icmp .ge 28, 3) := by decide +kernel
theorem d_Md_isFinal_25 : decode prog_8_method_22_code 25 = .ok (.iload_n 1, 1) := by decide +kernel
theorem d_Md_isFinal_26 : decode prog_8_method_22_code 26 = .ok (.ifCond .eq 16, 3) := by decide +kernel
theorem d_Md_isFinal_29 : decode prog_8_method_22_code 29 = .ok (.aload_n 0, 1) := by decide +kernel
theorem d_Md_isFinal_30 : decode prog_8_method_22_code 30 = .ok (.getfield 43, 3) := by decide +kernel
theorem d_Md_isFinal_33 : decode prog_8_method_22_code 33 = .ok (.iload_n 2, 1) := by decide +kernel
theorem d_Md_isFinal_34 : decode prog_8_method_22_code 34 = .ok (.iaload, 1) := by decide +kernel
theorem d_Md_isFinal_35 : decode prog_8_method_22_code 35 = .ok (.ifCond .ne 7, 3) := by decide +kernel
theorem d_Md_isFinal_38 : decode prog_8_method_22_code 38 = .ok (.iconst 1, 1) := by decide +kernel
theorem d_Md_isFinal_39 : decode prog_8_method_22_code 39 = .ok (.goto 4, 3) := by decide +kernel
theorem d_Md_isFinal_42 : decode prog_8_method_22_code 42 = .ok (.iconst 0, 1) := by decide +kernel
theorem d_Md_isFinal_43 : decode prog_8_method_22_code 43 = .ok (.istore_n 1, 1) := by decide +kernel
theorem d_Md_isFinal_44 : decode prog_8_method_22_code 44 = .ok (.iinc 2 1, 3) := by decide +kernel
theorem d_Md_isFinal_47 : decode prog_8_method_22_code 47 = .ok (.goto (-28), 3) := by decide +kernel
theorem d_Md_isFinal_50 : decode prog_8_method_22_code 50 = .ok (.iload_n 1, 1) := by decide +kernel
theorem d_Md_isFinal_51 : decode prog_8_method_22_code 51 = .ok (.ireturn, 1) := by decide +kernel
set_option maxRecDepth 20000 in
set_option maxHeartbeats 4000000 in
theorem cD_isFinal (E : fk_E) (b0 : Nat) (b1 : Nat) (b2 : Nat) (b3 : Nat) (b4 : Nat) (b5 : Nat) (b6 : Nat) (b7 : Nat) (b8 : Nat) (b9 : Nat) (b10 : Nat) (b11 : Nat) (b12 : Nat) (b13 : Nat) (b14 : Nat) (b15 : Nat) (mt : Nat) (mf : Nat) (my : Nat) (mw : Bool) (tk : Nat → Nat) (x : Nat) (hT : fr_T tk x) (hx : x < 2 ^ 64) : fk_C E fy_Md_isFinal prog_8_method_22_code 3 (some .boolean) 0 0 0 [.ref b0] [(b0, .inr (6, [.int (nI mt), .ref b1, .ref b2, .ref b3, .ref b4, .ref b5, .ref b6, .ref b7, .ref b8, .ref b9, .int (nI mf), .ref b10, .ref b11, .ref b12, .int (nI my), .int (nI (Bool.toNat mw)), .ref b13, .ref b14, .ref b15])), fk_ai E b12 16 tk] (S := Unit) (fun _ => some (.int (nI (Bool.toNat (decide (x = 16)))))) (fun _ => True) (fun _ => [(b0, .inr (6, [.int (nI mt), .ref b1, .ref b2, .ref b3, .ref b4, .ref b5, .ref b6, .ref b7, .ref b8, .ref b9, .int (nI mf), .ref b10, .ref b11, .ref b12, .int (nI my), .int (nI (Bool.toNat mw)), .ref b13, .ref b14, .ref b15])), fk_ai E b12 16 tk]) := by
  refine fk_enterZ (v := fun _ => decide (x = 16)) (by decide) (Nat.le_of_ble_eq_true rfl) (lv0 := [(0, .ref b0)]) rfl ?_
  intro K hini hret
  have g0 := fr_T_lt hT (show 15 < 16 by decide)
  refine fk_aload_n 0 d_Md_isFinal_0 rfl ?_
  refine fk_get 0 13 rfl rfl fh_Md (Nat.le_of_ble_eq_true rfl) fw_520 rfl d_Md_isFinal_1 ?_
  refine fk_bipush (v := nI 15) d_Md_isFinal_4 (by decide +kernel) ?_
  refine fk_ld_ai (i := 15) 1 rfl (by omega) (by decide) d_Md_isFinal_6 ?_
  refine fk_iconst (v := nI 1) d_Md_isFinal_7 (by decide +kernel) ?_
  refine fk_icmp_ne (a := (tk 15)) (b := 1) (by omega) (by omega) d_Md_isFinal_8 rfl (fun h8t => ?_) (fun h8f => ?_)
  · refine fk_iconst (v := nI 0) d_Md_isFinal_15 (by decide +kernel) ?_
    refine fk_istore_n (lv' := [(0, .ref b0), (1, .int (nI 0))]) d_Md_isFinal_16 rfl (Nat.le_of_ble_eq_true rfl) [1, 0] rfl ?_
    refine fk_iconst (v := nI 0) d_Md_isFinal_17 (by decide +kernel) ?_
    refine fk_istore_n (lv' := [(0, .ref b0), (1, .int (nI 0)), (2, .int (nI 0))]) d_Md_isFinal_18 rfl (Nat.le_of_ble_eq_true rfl) [1, 2, 0] rfl ?_
    have L19 : ∀ (fuel : Nat) (b : Bool) (i : Nat), (i ≤ 15) → (b = (decide (tk 15 = 1) && fs_all (fun z => decide (tk z = 0)) i)) → 15 - i < fuel → fk_V E (prog_8_method_22_code, fy_Md_isFinal.cls, 3, fk_rm 0 0 0) K (0, 0) [(b0, .inr (6, [.int (nI mt), .ref b1, .ref b2, .ref b3, .ref b4, .ref b5, .ref b6, .ref b7, .ref b8, .ref b9, .int (nI mf), .ref b10, .ref b11, .ref b12, .int (nI my), .int (nI (Bool.toNat mw)), .ref b13, .ref b14, .ref b15])), fk_ai E b12 16 tk] 19 [(0, .ref b0), (1, .int (nI (Bool.toNat b))), (2, .int (nI i))] [] := by
      intro fuel
      induction fuel with
      | zero => intro b i _ _ hm; exact absurd hm (Nat.not_lt_zero _)
      | succ fuel ih =>
        intro b i h1 h2 hm19
        have ih19 := ih
        clear ih
        refine fk_iload_n 2 d_Md_isFinal_19 rfl ?_
        refine fk_bipush (v := nI 15) d_Md_isFinal_20 (by decide +kernel) ?_
        refine fk_icmp_ge (a := i) (b := 15) (by omega) (by omega) d_Md_isFinal_22 rfl (fun h22t => ?_) (fun h22f => ?_)
        · refine fk_iload_n 1 d_Md_isFinal_50 rfl ?_
          refine fk_top (congrArg (fun b : Bool => nI b.toNat) (show b = (decide (x = 16)) from by rw [h2, show i = 15 by omega]; apply Bool.eq_iff_iff.mpr; rw [Bool.and_eq_true, decide_eq_true_iff, decide_eq_true_iff, fs_all_iff, fr_T_final hT hx]; simp only [decide_eq_true_iff])) ?_
          exact hret (0, 0) _ 51 _ () d_Md_isFinal_51 (trivial) (rfl)
        · have g1 := fr_T_lt hT (show i < 16 by omega)
          refine fk_iload_n 1 d_Md_isFinal_25 rfl ?_
          refine fk_if_eqB (b := b) d_Md_isFinal_26 rfl (fun h26t => ?_) (fun h26f => ?_)
          · refine fk_iconst (v := nI 0) d_Md_isFinal_42 (by decide +kernel) ?_
            refine fk_istore_n (lv' := [(0, .ref b0), (1, .int (nI 0)), (2, .int (nI i))]) d_Md_isFinal_43 rfl (Nat.le_of_ble_eq_true rfl) [1, 0, 2] rfl ?_
            refine fk_iinc (j := 2) (lv' := [(0, .ref b0), (1, .int (nI 0)), (2, .int (nI (i + 1)))]) (i + 1) d_Md_isFinal_44 rfl (nI_1 i) (Nat.le_of_ble_eq_true rfl) [1, 2, 0] rfl ?_
            refine fk_goto d_Md_isFinal_47 rfl ?_
            refine ih19 false _ ?_ ?_ ?_
            · first | omega | assumption | exact Nat.zero_le _
            · rw [fs_all_s, ← Bool.and_assoc, ← h2]
              first | rw [h26t, Bool.false_and] | rw [h26f, decide_eq_false h35t, Bool.and_false] | rw [h26f, decide_eq_true h35f, Bool.and_self]
            · omega
          · refine fk_aload_n 0 d_Md_isFinal_29 rfl ?_
            refine fk_get 0 13 rfl rfl fh_Md (Nat.le_of_ble_eq_true rfl) fw_520 rfl d_Md_isFinal_30 ?_
            refine fk_iload_n 2 d_Md_isFinal_33 rfl ?_
            refine fk_ld_ai (i := i) 1 rfl (by omega) (by decide) d_Md_isFinal_34 ?_
            refine fk_if_ne (a := (tk i)) (by omega) d_Md_isFinal_35 rfl (fun h35t => ?_) (fun h35f => ?_)
            · refine fk_iconst (v := nI 0) d_Md_isFinal_42 (by decide +kernel) ?_
              refine fk_istore_n (lv' := [(0, .ref b0), (1, .int (nI 0)), (2, .int (nI i))]) d_Md_isFinal_43 rfl (Nat.le_of_ble_eq_true rfl) [1, 0, 2] rfl ?_
              refine fk_iinc (j := 2) (lv' := [(0, .ref b0), (1, .int (nI 0)), (2, .int (nI (i + 1)))]) (i + 1) d_Md_isFinal_44 rfl (nI_1 i) (Nat.le_of_ble_eq_true rfl) [1, 2, 0] rfl ?_
              refine fk_goto d_Md_isFinal_47 rfl ?_
              refine ih19 false _ ?_ ?_ ?_
              · first | omega | assumption | exact Nat.zero_le _
              · rw [fs_all_s, ← Bool.and_assoc, ← h2]
                first | rw [h26t, Bool.false_and] | rw [h26f, decide_eq_false h35t, Bool.and_false] | rw [h26f, decide_eq_true h35f, Bool.and_self]
              · omega
            · refine fk_iconst (v := nI 1) d_Md_isFinal_38 (by decide +kernel) ?_
              refine fk_goto d_Md_isFinal_39 rfl ?_
              refine fk_istore_n (lv' := [(0, .ref b0), (1, .int (nI 1)), (2, .int (nI i))]) d_Md_isFinal_43 rfl (Nat.le_of_ble_eq_true rfl) [1, 0, 2] rfl ?_
              refine fk_iinc (j := 2) (lv' := [(0, .ref b0), (1, .int (nI 1)), (2, .int (nI (i + 1)))]) (i + 1) d_Md_isFinal_44 rfl (nI_1 i) (Nat.le_of_ble_eq_true rfl) [1, 2, 0] rfl ?_
              refine fk_goto d_Md_isFinal_47 rfl ?_
              refine ih19 true _ ?_ ?_ ?_
              · first | omega | assumption | exact Nat.zero_le _
              · rw [fs_all_s, ← Bool.and_assoc, ← h2]
                first | rw [h26t, Bool.false_and] | rw [h26f, decide_eq_false h35t, Bool.and_false] | rw [h26f, decide_eq_true h35f, Bool.and_self]
              · omega
    refine L19 _ false _ ?_ ?_ (Nat.lt_succ_self _)
    · first | omega | assumption | exact Nat.zero_le _
    · first | (rw [decide_eq_true h8f]; rfl) | (rw [decide_eq_false h8t]; rfl)
  · refine fk_iconst (v := nI 1) d_Md_isFinal_11 (by decide +kernel) ?_
    refine fk_goto d_Md_isFinal_12 rfl ?_
    refine fk_istore_n (lv' := [(0, .ref b0), (1, .int (nI 1))]) d_Md_isFinal_16 rfl (Nat.le_of_ble_eq_true rfl) [1, 0] rfl ?_
    refine fk_iconst (v := nI 0) d_Md_isFinal_17 (by decide +kernel) ?_
    refine fk_istore_n (lv' := [(0, .ref b0), (1, .int (nI 1)), (2, .int (nI 0))]) d_Md_isFinal_18 rfl (Nat.le_of_ble_eq_true rfl) [1, 2, 0] rfl ?_
    have L19 : ∀ (fuel : Nat) (b : Bool) (i : Nat), (i ≤ 15) → (b = (decide (tk 15 = 1) && fs_all (fun z => decide (tk z = 0)) i)) → 15 - i < fuel → fk_V E (prog_8_method_22_code, fy_Md_isFinal.cls, 3, fk_rm 0 0 0) K (0, 0) [(b0, .inr (6, [.int (nI mt), .ref b1, .ref b2, .ref b3, .ref b4, .ref b5, .ref b6, .ref b7, .ref b8, .ref b9, .int (nI mf), .ref b10, .ref b11, .ref b12, .int (nI my), .int (nI (Bool.toNat mw)), .ref b13, .ref b14, .ref b15])), fk_ai E b12 16 tk] 19 [(0, .ref b0), (1, .int (nI (Bool.toNat b))), (2, .int (nI i))] [] := by
      intro fuel
      induction fuel with
      | zero => intro b i _ _ hm; exact absurd hm (Nat.not_lt_zero _)
      | succ fuel ih =>
        intro b i h1 h2 hm19
        have ih19 := ih
        clear ih
        refine fk_iload_n 2 d_Md_isFinal_19 rfl ?_
        refine fk_bipush (v := nI 15) d_Md_isFinal_20 (by decide +kernel) ?_
        refine fk_icmp_ge (a := i) (b := 15) (by omega) (by omega) d_Md_isFinal_22 rfl (fun h22t => ?_) (fun h22f => ?_)
        · refine fk_iload_n 1 d_Md_isFinal_50 rfl ?_
          refine fk_top (congrArg (fun b : Bool => nI b.toNat) (show b = (decide (x = 16)) from by rw [h2, show i = 15 by omega]; apply Bool.eq_iff_iff.mpr; rw [Bool.and_eq_true, decide_eq_true_iff, decide_eq_true_iff, fs_all_iff, fr_T_final hT hx]; simp only [decide_eq_true_iff])) ?_
          exact hret (0, 0) _ 51 _ () d_Md_isFinal_51 (trivial) (rfl)
        · have g1 := fr_T_lt hT (show i < 16 by omega)
          refine fk_iload_n 1 d_Md_isFinal_25 rfl ?_
          refine fk_if_eqB (b := b) d_Md_isFinal_26 rfl (fun h26t => ?_) (fun h26f => ?_)
          · refine fk_iconst (v := nI 0) d_Md_isFinal_42 (by decide +kernel) ?_
            refine fk_istore_n (lv' := [(0, .ref b0), (1, .int (nI 0)), (2, .int (nI i))]) d_Md_isFinal_43 rfl (Nat.le_of_ble_eq_true rfl) [1, 0, 2] rfl ?_
            refine fk_iinc (j := 2) (lv' := [(0, .ref b0), (1, .int (nI 0)), (2, .int (nI (i + 1)))]) (i + 1) d_Md_isFinal_44 rfl (nI_1 i) (Nat.le_of_ble_eq_true rfl) [1, 2, 0] rfl ?_
            refine fk_goto d_Md_isFinal_47 rfl ?_
            refine ih19 false _ ?_ ?_ ?_
            · first | omega | assumption | exact Nat.zero_le _
            · rw [fs_all_s, ← Bool.and_assoc, ← h2]
              first | rw [h26t, Bool.false_and] | rw [h26f, decide_eq_false h35t, Bool.and_false] | rw [h26f, decide_eq_true h35f, Bool.and_self]
            · omega
          · refine fk_aload_n 0 d_Md_isFinal_29 rfl ?_
            refine fk_get 0 13 rfl rfl fh_Md (Nat.le_of_ble_eq_true rfl) fw_520 rfl d_Md_isFinal_30 ?_
            refine fk_iload_n 2 d_Md_isFinal_33 rfl ?_
            refine fk_ld_ai (i := i) 1 rfl (by omega) (by decide) d_Md_isFinal_34 ?_
            refine fk_if_ne (a := (tk i)) (by omega) d_Md_isFinal_35 rfl (fun h35t => ?_) (fun h35f => ?_)
            · refine fk_iconst (v := nI 0) d_Md_isFinal_42 (by decide +kernel) ?_
              refine fk_istore_n (lv' := [(0, .ref b0), (1, .int (nI 0)), (2, .int (nI i))]) d_Md_isFinal_43 rfl (Nat.le_of_ble_eq_true rfl) [1, 0, 2] rfl ?_
              refine fk_iinc (j := 2) (lv' := [(0, .ref b0), (1, .int (nI 0)), (2, .int (nI (i + 1)))]) (i + 1) d_Md_isFinal_44 rfl (nI_1 i) (Nat.le_of_ble_eq_true rfl) [1, 2, 0] rfl ?_
              refine fk_goto d_Md_isFinal_47 rfl ?_
              refine ih19 false _ ?_ ?_ ?_
              · first | omega | assumption | exact Nat.zero_le _
              · rw [fs_all_s, ← Bool.and_assoc, ← h2]
                first | rw [h26t, Bool.false_and] | rw [h26f, decide_eq_false h35t, Bool.and_false] | rw [h26f, decide_eq_true h35f, Bool.and_self]
              · omega
            · refine fk_iconst (v := nI 1) d_Md_isFinal_38 (by decide +kernel) ?_
              refine fk_goto d_Md_isFinal_39 rfl ?_
              refine fk_istore_n (lv' := [(0, .ref b0), (1, .int (nI 1)), (2, .int (nI i))]) d_Md_isFinal_43 rfl (Nat.le_of_ble_eq_true rfl) [1, 0, 2] rfl ?_
              refine fk_iinc (j := 2) (lv' := [(0, .ref b0), (1, .int (nI 1)), (2, .int (nI (i + 1)))]) (i + 1) d_Md_isFinal_44 rfl (nI_1 i) (Nat.le_of_ble_eq_true rfl) [1, 2, 0] rfl ?_
              refine fk_goto d_Md_isFinal_47 rfl ?_
              refine ih19 true _ ?_ ?_ ?_
              · first | omega | assumption | exact Nat.zero_le _
              · rw [fs_all_s, ← Bool.and_assoc, ← h2]
                first | rw [h26t, Bool.false_and] | rw [h26f, decide_eq_false h35t, Bool.and_false] | rw [h26f, decide_eq_true h35f, Bool.and_self]
              · omega
    refine L19 _ true _ ?_ ?_ (Nat.lt_succ_self _)
    · first | omega | assumption | exact Nat.zero_le _
    · first | (rw [decide_eq_true h8f]; rfl) | (rw [decide_eq_false h8t]; rfl)
