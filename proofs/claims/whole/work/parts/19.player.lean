theorem d_Pl_chosenOf_0 : decode prog_5_method_5_code 0 = .ok (.iload_n 0, 1) := by decide +kernel
theorem d_Pl_chosenOf_1 : decode prog_5_method_5_code 1 = .ok (.invokestatic 37, 3) := by decide +kernel
theorem d_Pl_chosenOf_4 : decode prog_5_method_5_code 4 = .ok (.istore_n 2, 1) := by decide +kernel
theorem d_Pl_chosenOf_5 : decode prog_5_method_5_code 5 = .ok (.iload_n 2, 1) := by decide +kernel
theorem d_Pl_chosenOf_6 : decode prog_5_method_5_code 6 = .ok (.ifCond .ne 7, 3) := by decide +kernel
theorem d_Pl_chosenOf_9 : decode prog_5_method_5_code 9 = .ok (.iconst 0, 1) := by decide +kernel
theorem d_Pl_chosenOf_10 : decode prog_5_method_5_code 10 = .ok (.goto 6, 3) := by decide +kernel
theorem d_Pl_chosenOf_13 : decode prog_5_method_5_code 13 = .ok (.iload_n 1, 1) := by decide +kernel
theorem d_Pl_chosenOf_14 : decode prog_5_method_5_code 14 = .ok (.iload_n 2, 1) := by decide +kernel
theorem d_Pl_chosenOf_15 : decode prog_5_method_5_code 15 = .ok (.irem, 1) := by decide +kernel
theorem d_Pl_chosenOf_16 : decode prog_5_method_5_code 16 = .ok (.istore_n 3, 1) := by decide +kernel
theorem d_Pl_chosenOf_17 : decode prog_5_method_5_code 17 = .ok (.iconst 0, 1) := by decide +kernel
theorem d_Pl_chosenOf_18 : decode prog_5_method_5_code 18 = .ok (.istore 4, 2) := by decide +kernel
theorem d_Pl_chosenOf_20 : decode prog_5_method_5_code 20 = .ok (.iload 4, 2) := by decide +kernel
theorem d_Pl_chosenOf_22 : decode prog_5_method_5_code 22 = .ok (.bipush 7, 2) := by decide +kernel
theorem d_Pl_chosenOf_24 : decode prog_5_method_5_code 24 = .ok (.if_icmp .ge 28, 3) := by decide +kernel
theorem d_Pl_chosenOf_27 : decode prog_5_method_5_code 27 = .ok (.iload 4, 2) := by decide +kernel
theorem d_Pl_chosenOf_29 : decode prog_5_method_5_code 29 = .ok (.iload_n 0, 1) := by decide +kernel
theorem d_Pl_chosenOf_30 : decode prog_5_method_5_code 30 = .ok (.invokestatic 43, 3) := by decide +kernel
theorem d_Pl_chosenOf_33 : decode prog_5_method_5_code 33 = .ok (.ifCond .eq 13, 3) := by decide +kernel
theorem d_Pl_chosenOf_36 : decode prog_5_method_5_code 36 = .ok (.iload_n 3, 1) := by decide +kernel
theorem d_Pl_chosenOf_37 : decode prog_5_method_5_code 37 = .ok (.ifCond .ne 6, 3) := by decide +kernel
theorem d_Pl_chosenOf_40 : decode prog_5_method_5_code 40 = .ok (.iload 4, 2) := by decide +kernel
theorem d_Pl_chosenOf_42 : decode prog_5_method_5_code 42 = .ok (.ireturn, 1) := by decide +kernel
theorem d_Pl_chosenOf_43 : decode prog_5_method_5_code 43 = .ok (.iinc 3 (-1), 3) := by decide +kernel
theorem d_Pl_chosenOf_46 : decode prog_5_method_5_code 46 = .ok (.iinc 4 1, 3) := by decide +kernel
theorem d_Pl_chosenOf_49 : decode prog_5_method_5_code 49 = .ok (.goto (-29), 3) := by decide +kernel
theorem d_Pl_chosenOf_52 : decode prog_5_method_5_code 52 = .ok (.iconst 0, 1) := by decide +kernel
theorem d_Pl_chosenOf_53 : decode prog_5_method_5_code 53 = .ok (.ireturn, 1) := by decide +kernel
set_option maxRecDepth 20000 in
set_option maxHeartbeats 4000000 in
theorem cP_chosenOf (E : fk_E) (e : Nat) (num : Nat) (he : e < 128) (h0 : e ≠ 0) (hn : num < 8) : fk_C E fy_Pl_chosenOf prog_5_method_5_code 5 (some .int) 1 0 0 [.int (nI e), .int (nI num)] [] (S := Unit) (fun _ => some (.int (nI (fp_pk e 7 0 (num % fs_bc e 7))))) (fun _ => True) (fun _ => []) := by
  refine fk_enterI (v := fun _ => (nI (fp_pk e 7 0 (num % fs_bc e 7)))) (by decide) (Nat.le_of_ble_eq_true rfl) (lv0 := [(0, .int (nI e)), (1, .int (nI num))]) rfl ?_
  intro K hini hret
  have g1 := fs_bc_pos e he h0
  have g2 := fs_bc_lt e he
  refine fk_iload_n 0 d_Pl_chosenOf_0 rfl ?_
  refine fk_callS (As := [.int (nI e)]) (rest := []) (is := []) (ir := []) (ip := []) (wc := []) (wr := []) (w2 := fun _ => []) (cI_bitCount E e (by first | omega | assumption)) d_Pl_chosenOf_1 fz_It_bitCount fw_481 fw_453 ⟨Nat.le_of_ble_eq_true rfl, Nat.le_of_ble_eq_true rfl⟩ rfl (Nat.le_of_ble_eq_true rfl) ⟨Nat.zero_le _, Nat.zero_le _⟩ ⟨rfl, rfl, rfl, rfl, by decide, fun _ => rfl, rfl⟩ (fun u hu1 => ?_)
  show fk_V E _ K (0, 0) [] 4 [(0, .int (nI e)), (1, .int (nI num))] [.int (nI (fs_bc e 7))]
  refine fk_istore_n (lv' := [(0, .int (nI e)), (1, .int (nI num)), (2, .int (nI (fs_bc e 7)))]) d_Pl_chosenOf_4 rfl (Nat.le_of_ble_eq_true rfl) [1, 2, 0] rfl ?_
  refine fk_iload_n 2 d_Pl_chosenOf_5 rfl ?_
  refine fk_if_ne (a := (fs_bc e 7)) (by omega) d_Pl_chosenOf_6 rfl (fun h6t => ?_) (fun h6f => ?_)
  · refine fk_iload_n 1 d_Pl_chosenOf_13 rfl ?_
    refine fk_iload_n 2 d_Pl_chosenOf_14 rfl ?_
    refine fk_irem (a := num) (b := (fs_bc e 7)) d_Pl_chosenOf_15 (by omega) (by omega) (by omega) ?_
    refine fk_istore_n (lv' := [(0, .int (nI e)), (1, .int (nI num)), (2, .int (nI (fs_bc e 7))), (3, .int (nI (num % (fs_bc e 7))))]) d_Pl_chosenOf_16 rfl (Nat.le_of_ble_eq_true rfl) [1, 2, 3, 0] rfl ?_
    refine fk_iconst (v := nI 0) d_Pl_chosenOf_17 (by decide +kernel) ?_
    refine fk_istore (lv' := [(0, .int (nI e)), (1, .int (nI num)), (2, .int (nI (fs_bc e 7))), (3, .int (nI (num % (fs_bc e 7)))), (4, .int (nI 0))]) d_Pl_chosenOf_18 (Nat.le_of_ble_eq_true rfl) [1, 2, 3, 4, 0] rfl ?_
    have L20 : ∀ (fuel : Nat) (a : Nat) (l : Nat), (a ≤ 7) → (l < 8) → (fp_pk e 7 0 (num % fs_bc e 7) = fp_pk e (7 - a) a l) → 7 - a < fuel → fk_V E (prog_5_method_5_code, fy_Pl_chosenOf.cls, 5, fk_rm 1 0 0) K (0, 0) [] 20 [(0, .int (nI e)), (3, .int (nI l)), (4, .int (nI a))] [] := by
      intro fuel
      induction fuel with
      | zero => intro a l _ _ _ hm; exact absurd hm (Nat.not_lt_zero _)
      | succ fuel ih =>
        intro a l h1 h2 h3 hm20
        have ih20 := ih
        clear ih
        refine fk_iload 2 d_Pl_chosenOf_20 rfl ?_
        refine fk_bipush (v := nI 7) d_Pl_chosenOf_22 (by decide +kernel) ?_
        refine fk_icmp_ge (a := a) (b := 7) (by omega) (by omega) d_Pl_chosenOf_24 rfl (fun h24t => ?_) (fun h24f => ?_)
        · refine fk_iconst (v := nI 0) d_Pl_chosenOf_52 (by decide +kernel) ?_
          refine fk_top (congrArg nI (show 0 = fp_pk e 7 0 (num % fs_bc e 7) from by rw [h3, show 7 - a = 0 by omega]; rfl)) ?_
          exact hret (0, 0) _ 53 _ () d_Pl_chosenOf_53 (trivial) (rfl)
        · have g3 : 7 - a = (7 - (a + 1)) + 1 := by omega
          refine fk_iload 2 d_Pl_chosenOf_27 rfl ?_
          refine fk_iload_n 0 d_Pl_chosenOf_29 rfl ?_
          refine fk_callSN (As := [.int (nI a), .int (nI e)]) (rest := []) (is := []) (ir := []) (ip := []) (wc := []) (wr := []) (w2 := fun _ => []) (cF_isIn E a e (by first | omega | assumption) (by first | omega | assumption)) d_Pl_chosenOf_30 fz_F_isIn fw_482 fw_223 ⟨Nat.le_of_ble_eq_true rfl, Nat.le_of_ble_eq_true rfl⟩ rfl (Nat.le_of_ble_eq_true rfl) ⟨Nat.zero_le _, Nat.zero_le _⟩ ⟨rfl, rfl, rfl, rfl, by decide, fun _ => rfl, rfl⟩ (fun u hu30 => ?_)
          show fk_V E _ K (0, 0) [] 33 [(0, .int (nI e)), (3, .int (nI l)), (4, .int (nI a))] [.int (nI (Bool.toNat (Nat.testBit e a)))]
          refine fk_if_eqB (b := (Nat.testBit e a)) d_Pl_chosenOf_33 rfl (fun h33t => ?_) (fun h33f => ?_)
          · refine fk_iinc (j := 2) (lv' := [(0, .int (nI e)), (3, .int (nI l)), (4, .int (nI (a + 1)))]) (a + 1) d_Pl_chosenOf_46 rfl (nI_1 a) (Nat.le_of_ble_eq_true rfl) [1, 2, 0] rfl ?_
            refine fk_goto d_Pl_chosenOf_49 rfl ?_
            refine ih20 _ _ ?_ ?_ ?_ ?_
            · first | omega | assumption | exact Nat.zero_le _
            · first | omega | assumption | exact Nat.zero_le _
            · rw [h3, g3]
              show (if e.testBit a = true then (if l = 0 then a else fp_pk e (7 - (a + 1)) (a + 1) (l - 1)) else fp_pk e (7 - (a + 1)) (a + 1) l) = _
              first | rw [if_pos h33f, if_neg h37t] | rw [if_neg (by rw [h33t]; decide)]
            · omega
          · refine fk_iload_n 1 d_Pl_chosenOf_36 rfl ?_
            refine fk_if_ne (a := l) (by omega) d_Pl_chosenOf_37 rfl (fun h37t => ?_) (fun h37f => ?_)
            · refine fk_iinc (j := 1) (lv' := [(0, .int (nI e)), (3, .int (nI (l - 1))), (4, .int (nI a))]) (l - 1) d_Pl_chosenOf_43 rfl (fn_dec (by omega)) (Nat.le_of_ble_eq_true rfl) [1, 0, 2] rfl ?_
              refine fk_iinc (j := 2) (lv' := [(0, .int (nI e)), (3, .int (nI (l - 1))), (4, .int (nI (a + 1)))]) (a + 1) d_Pl_chosenOf_46 rfl (nI_1 a) (Nat.le_of_ble_eq_true rfl) [1, 2, 0] rfl ?_
              refine fk_goto d_Pl_chosenOf_49 rfl ?_
              refine ih20 _ _ ?_ ?_ ?_ ?_
              · first | omega | assumption | exact Nat.zero_le _
              · first | omega | assumption | exact Nat.zero_le _
              · rw [h3, g3]
                show (if e.testBit a = true then (if l = 0 then a else fp_pk e (7 - (a + 1)) (a + 1) (l - 1)) else fp_pk e (7 - (a + 1)) (a + 1) l) = _
                first | rw [if_pos h33f, if_neg h37t] | rw [if_neg (by rw [h33t]; decide)]
              · omega
            · refine fk_iload 2 d_Pl_chosenOf_40 rfl ?_
              refine fk_top (congrArg nI (show a = fp_pk e 7 0 (num % fs_bc e 7) from by rw [h3, g3]; show _ = (if e.testBit a = true then (if l = 0 then a else fp_pk e (7 - (a + 1)) (a + 1) (l - 1)) else fp_pk e (7 - (a + 1)) (a + 1) l); rw [if_pos h33f, if_pos h37f])) ?_
              exact hret (0, 0) _ 42 _ () d_Pl_chosenOf_42 (trivial) (rfl)
    refine fk_lv (lv' := [(0, .int (nI e)), (3, .int (nI (num % (fs_bc e 7)))), (4, .int (nI 0))]) [0, 3, 4] rfl ?_
    refine L20 _ _ _ ?_ ?_ ?_ (Nat.lt_succ_self _)
    · first | omega | assumption | exact Nat.zero_le _
    · have := Nat.mod_lt num g1
      omega
    · rfl
  · omega
theorem d_Pl_firedCount_0 : decode prog_5_method_2_code 0 = .ok (.aload_n 0, 1) := by decide +kernel
theorem d_Pl_firedCount_1 : decode prog_5_method_2_code 1 = .ok (.getfield 15, 3) := by decide +kernel
theorem d_Pl_firedCount_4 : decode prog_5_method_2_code 4 = .ok (.ireturn, 1) := by decide +kernel
set_option maxRecDepth 20000 in
set_option maxHeartbeats 4000000 in
theorem cP_firedCount (E : fk_E) (p0 : Nat) (p1 : Nat) (pc : Nat)  : fk_C E fy_Pl_firedCount prog_5_method_2_code 1 (some .int) 0 0 0 [.ref p0] [(p0, .inr (5, [.ref p1, .int (nI pc)]))] (S := Unit) (fun _ => some (.int (nI pc))) (fun _ => True) (fun _ => [(p0, .inr (5, [.ref p1, .int (nI pc)]))]) := by
  refine fk_enterI (v := fun _ => (nI pc)) (by decide) (Nat.le_of_ble_eq_true rfl) (lv0 := [(0, .ref p0)]) rfl ?_
  intro K hini hret
  refine fk_aload_n 0 d_Pl_firedCount_0 rfl ?_
  refine fk_get 0 1 rfl rfl fh_Pl (Nat.le_of_ble_eq_true rfl) fw_128 rfl d_Pl_firedCount_1 ?_
  exact hret (0, 0) _ 4 _ () d_Pl_firedCount_4 (trivial) (rfl)
theorem d_Pl_firedAt_0 : decode prog_5_method_3_code 0 = .ok (.aload_n 0, 1) := by decide +kernel
theorem d_Pl_firedAt_1 : decode prog_5_method_3_code 1 = .ok (.getfield 9, 3) := by decide +kernel
theorem d_Pl_firedAt_4 : decode prog_5_method_3_code 4 = .ok (.iload_n 1, 1) := by decide +kernel
theorem d_Pl_firedAt_5 : decode prog_5_method_3_code 5 = .ok (.iaload, 1) := by decide +kernel
theorem d_Pl_firedAt_6 : decode prog_5_method_3_code 6 = .ok (.ireturn, 1) := by decide +kernel
set_option maxRecDepth 20000 in
set_option maxHeartbeats 4000000 in
theorem cP_firedAt (E : fk_E) (p0 : Nat) (p1 : Nat) (pc : Nat) (fr : Nat → Nat) (i : Nat) (hi : i < 15) : fk_C E fy_Pl_firedAt prog_5_method_3_code 2 (some .int) 0 0 0 [.ref p0, .int (nI i)] [(p0, .inr (5, [.ref p1, .int (nI pc)])), fk_ai E p1 15 fr] (S := Unit) (fun _ => some (.int (nI (fr i)))) (fun _ => True) (fun _ => [(p0, .inr (5, [.ref p1, .int (nI pc)])), fk_ai E p1 15 fr]) := by
  refine fk_enterI (v := fun _ => (nI (fr i))) (by decide) (Nat.le_of_ble_eq_true rfl) (lv0 := [(0, .ref p0), (1, .int (nI i))]) rfl ?_
  intro K hini hret
  refine fk_aload_n 0 d_Pl_firedAt_0 rfl ?_
  refine fk_get 0 0 rfl rfl fh_Pl (Nat.le_of_ble_eq_true rfl) fw_127 rfl d_Pl_firedAt_1 ?_
  refine fk_iload_n 1 d_Pl_firedAt_4 rfl ?_
  refine fk_ld_ai (i := i) 1 rfl (by omega) (by decide) d_Pl_firedAt_5 ?_
  exact hret (0, 0) _ 6 _ () d_Pl_firedAt_6 (trivial) (rfl)
theorem d_Pl_reachesFinal_0 : decode prog_5_method_4_code 0 = .ok (.lconst 1, 1) := by decide +kernel
theorem d_Pl_reachesFinal_1 : decode prog_5_method_4_code 1 = .ok (.lstore 4, 2) := by decide +kernel
theorem d_Pl_reachesFinal_3 : decode prog_5_method_4_code 3 = .ok (.lload_n 2, 1) := by decide +kernel
theorem d_Pl_reachesFinal_4 : decode prog_5_method_4_code 4 = .ok (.lstore 6, 2) := by decide +kernel
theorem d_Pl_reachesFinal_6 : decode prog_5_method_4_code 6 = .ok (.aload_n 0, 1) := by decide +kernel
theorem d_Pl_reachesFinal_7 : decode prog_5_method_4_code 7 = .ok (.iconst 0, 1) := by decide +kernel
theorem d_Pl_reachesFinal_8 : decode prog_5_method_4_code 8 = .ok (.putfield 15, 3) := by decide +kernel
theorem d_Pl_reachesFinal_11 : decode prog_5_method_4_code 11 = .ok (.aload_n 0, 1) := by decide +kernel
theorem d_Pl_reachesFinal_12 : decode prog_5_method_4_code 12 = .ok (.getfield 15, 3) := by decide +kernel
theorem d_Pl_reachesFinal_15 : decode prog_5_method_4_code 15 = .ok (.bipush 15, 2) := by decide +kernel
theorem d_Pl_reachesFinal_17 : decode prog_5_method_4_code 17 = .ok (.if_icmp .ge 81, 3) := by decide +kernel
theorem d_Pl_reachesFinal_20 : decode prog_5_method_4_code 20 = .ok (.lload 4, 2) := by decide +kernel
theorem d_Pl_reachesFinal_22 : decode prog_5_method_4_code 22 = .ok (.ldc2_w 19, 3) := by decide +kernel
theorem d_Pl_reachesFinal_25 : decode prog_5_method_4_code 25 = .ok (.lcmp, 1) := by decide +kernel
theorem d_Pl_reachesFinal_26 : decode prog_5_method_4_code 26 = .ok (.ifCond .eq 72, 3) := by decide +kernel
theorem d_Pl_reachesFinal_29 : decode prog_5_method_4_code 29 = .ok (.aload_n 1, 1) := by decide +kernel
theorem d_Pl_reachesFinal_30 : decode prog_5_method_4_code 30 = .ok (.lload 4, 2) := by decide +kernel
theorem d_Pl_reachesFinal_32 : decode prog_5_method_4_code 32 = .ok (.invokevirtual 21, 3) := by decide +kernel
theorem d_Pl_reachesFinal_35 : decode prog_5_method_4_code 35 = .ok (.istore 8, 2) := by decide +kernel
theorem d_Pl_reachesFinal_37 : decode prog_5_method_4_code 37 = .ok (.iload 8, 2) := by decide +kernel
theorem d_Pl_reachesFinal_39 : decode prog_5_method_4_code 39 = .ok (.ifCond .ne 5, 3) := by decide +kernel
theorem d_Pl_reachesFinal_42 : decode prog_5_method_4_code 42 = .ok (.iconst 0, 1) := by decide +kernel
theorem d_Pl_reachesFinal_43 : decode prog_5_method_4_code 43 = .ok (.ireturn, 1) := by decide +kernel
theorem d_Pl_reachesFinal_44 : decode prog_5_method_4_code 44 = .ok (.iload 8, 2) := by decide +kernel
theorem d_Pl_reachesFinal_46 : decode prog_5_method_4_code 46 = .ok (.lload 6, 2) := by decide +kernel
theorem d_Pl_reachesFinal_48 : decode prog_5_method_4_code 48 = .ok (.ldc2_w 27, 3) := by decide +kernel
theorem d_Pl_reachesFinal_51 : decode prog_5_method_4_code 51 = .ok (.land, 1) := by decide +kernel
theorem d_Pl_reachesFinal_52 : decode prog_5_method_4_code 52 = .ok (.l2i, 1) := by decide +kernel
theorem d_Pl_reachesFinal_53 : decode prog_5_method_4_code 53 = .ok (.invokestatic 29, 3) := by decide +kernel
theorem d_Pl_reachesFinal_56 : decode prog_5_method_4_code 56 = .ok (.istore 9, 2) := by decide +kernel
theorem d_Pl_reachesFinal_58 : decode prog_5_method_4_code 58 = .ok (.aload_n 0, 1) := by decide +kernel
theorem d_Pl_reachesFinal_59 : decode prog_5_method_4_code 59 = .ok (.getfield 9, 3) := by decide +kernel
theorem d_Pl_reachesFinal_62 : decode prog_5_method_4_code 62 = .ok (.aload_n 0, 1) := by decide +kernel
theorem d_Pl_reachesFinal_63 : decode prog_5_method_4_code 63 = .ok (.getfield 15, 3) := by decide +kernel
theorem d_Pl_reachesFinal_66 : decode prog_5_method_4_code 66 = .ok (.iload 9, 2) := by decide +kernel
theorem d_Pl_reachesFinal_68 : decode prog_5_method_4_code 68 = .ok (.iastore, 1) := by decide +kernel
theorem d_Pl_reachesFinal_69 : decode prog_5_method_4_code 69 = .ok (.aload_n 0, 1) := by decide +kernel
theorem d_Pl_reachesFinal_70 : decode prog_5_method_4_code 70 = .ok (.dup, 1) := by decide +kernel
theorem d_Pl_reachesFinal_71 : decode prog_5_method_4_code 71 = .ok (.getfield 15, 3) := by decide +kernel
theorem d_Pl_reachesFinal_74 : decode prog_5_method_4_code 74 = .ok (.iconst 1, 1) := by decide +kernel
theorem d_Pl_reachesFinal_75 : decode prog_5_method_4_code 75 = .ok (.iadd, 1) := by decide +kernel
theorem d_Pl_reachesFinal_76 : decode prog_5_method_4_code 76 = .ok (.putfield 15, 3) := by decide +kernel
theorem d_Pl_reachesFinal_79 : decode prog_5_method_4_code 79 = .ok (.aload_n 1, 1) := by decide +kernel
theorem d_Pl_reachesFinal_80 : decode prog_5_method_4_code 80 = .ok (.lload 4, 2) := by decide +kernel
theorem d_Pl_reachesFinal_82 : decode prog_5_method_4_code 82 = .ok (.iload 9, 2) := by decide +kernel
theorem d_Pl_reachesFinal_84 : decode prog_5_method_4_code 84 = .ok (.invokevirtual 33, 3) := by decide +kernel
theorem d_Pl_reachesFinal_87 : decode prog_5_method_4_code 87 = .ok (.lstore 4, 2) := by decide +kernel
theorem d_Pl_reachesFinal_89 : decode prog_5_method_4_code 89 = .ok (.lload 6, 2) := by decide +kernel
theorem d_Pl_reachesFinal_91 : decode prog_5_method_4_code 91 = .ok (.iconst 3, 1) := by decide +kernel
theorem d_Pl_reachesFinal_92 : decode prog_5_method_4_code 92 = .ok (.lushr, 1) := by decide +kernel
theorem d_Pl_reachesFinal_93 : decode prog_5_method_4_code 93 = .ok (.lstore 6, 2) := by decide +kernel
theorem d_Pl_reachesFinal_95 : decode prog_5_method_4_code 95 = .ok (.goto (-84), 3) := by decide +kernel
theorem d_Pl_reachesFinal_98 : decode prog_5_method_4_code 98 = .ok (.lload 4, 2) := by decide +kernel
theorem d_Pl_reachesFinal_100 : decode prog_5_method_4_code 100 = .ok (.ldc2_w 19, 3) := by decide +kernel
theorem d_Pl_reachesFinal_103 : decode prog_5_method_4_code 103 = .ok (.lcmp, 1) := by decide +kernel
theorem d_Pl_reachesFinal_104 : decode prog_5_method_4_code 104 = .ok (.ifCond .ne 7, 3) := by decide +kernel
theorem d_Pl_reachesFinal_107 : decode prog_5_method_4_code 107 = .ok (.iconst 1, 1) := by decide +kernel
theorem d_Pl_reachesFinal_108 : decode prog_5_method_4_code 108 = .ok (.goto 4, 3) := by decide +kernel
theorem d_Pl_reachesFinal_111 : decode prog_5_method_4_code 111 = .ok (.iconst 0, 1) := by decide +kernel
theorem d_Pl_reachesFinal_112 : decode prog_5_method_4_code 112 = .ok (.ireturn, 1) := by decide +kernel
set_option maxRecDepth 20000 in
set_option maxHeartbeats 4000000 in
theorem cP_reachesFinal (E : fk_E) (p0 : Nat) (p1 : Nat) (pc : Nat) (n0 : Nat) (n1 : Nat) (n2 : Nat) (n3 : Nat) (n4 : Nat) (cnt : Nat) (fi : Nat) (la : Nat) (lo : Nat) (me : Nat) (fr : Nat → Nat) (tk : Nat → Nat) (pu : Nat → Nat) (O : Nat → Nat) (I : Nat → Nat) (tp : Nat) (hm : me < 128) (hk : ∀ a, a < 7 → tk a = fm_mk (fs_tak O a)) (hu : ∀ a, a < 7 → pu a = fm_mk (fs_tak I a)) (hI : I 0 = 0) (ht : tp < 2 ^ 64) : fk_C E fy_Pl_reachesFinal prog_5_method_4_code 10 (some .boolean) 2 0 0 [.ref p0, .ref n0, .long (lN tp)] [(p0, .inr (5, [.ref p1, .int (nI pc)])), fk_ai E p1 15 fr, (n0, .inr (2, [.ref n1, .ref n2, .ref n3, .ref n4, .int (nI cnt), .int (nI fi), .int (nI la), .int (nI lo), .int (nI me)])), fk_al E n3 7 tk, fk_al E n4 7 pu] (S := Nat × (Nat → Nat)) (fun (u : Nat × (Nat → Nat)) => some (.int (nI (Bool.toNat (decide ((fp_run O I me tp 16).1 = 16)))))) (fun (u : Nat × (Nat → Nat)) => u.1 ≤ 15 ∧ ((fp_run O I me tp 16).1 = 16 → u.1 = (fp_run O I me tp 16).2.1 ∧ ∀ z, z < u.1 → u.2 z = (fp_run O I me tp 16).2.2.1 z ∧ u.2 z < 7)) (fun (u : Nat × (Nat → Nat)) => [(p0, .inr (5, [.ref p1, .int (nI u.1)])), fk_ai E p1 15 u.2, (n0, .inr (2, [.ref n1, .ref n2, .ref n3, .ref n4, .int (nI cnt), .int (nI fi), .int (nI la), .int (nI lo), .int (nI me)])), fk_al E n3 7 tk, fk_al E n4 7 pu]) := by
  refine fk_enterZ (v := fun (u : Nat × (Nat → Nat)) => decide ((fp_run O I me tp 16).1 = 16)) (by decide) (Nat.le_of_ble_eq_true rfl) (lv0 := [(0, .ref p0), (1, .ref n0), (2, .long (lN tp))]) rfl ?_
  intro K hini hret
  refine fk_lconst (v := lN 1) d_Pl_reachesFinal_0 rfl ?_
  refine fk_lstore (lv' := [(0, .ref p0), (1, .ref n0), (2, .long (lN tp)), (4, .long (lN 1))]) d_Pl_reachesFinal_1 (Nat.le_of_ble_eq_true rfl) [1, 2, 3, 0] rfl ?_
  refine fk_lload_n 2 d_Pl_reachesFinal_3 rfl ?_
  refine fk_topl (show (lN tp) = (lN (tp / 2 ^ (3 * 0))) from congrArg lN (by simp)) ?_
  refine fk_lstore (lv' := [(0, .ref p0), (1, .ref n0), (2, .long (lN tp)), (4, .long (lN 1)), (6, .long (lN (tp / 2 ^ (3 * 0))))]) d_Pl_reachesFinal_4 (Nat.le_of_ble_eq_true rfl) [1, 2, 3, 4, 0] rfl ?_
  refine fk_aload_n 0 d_Pl_reachesFinal_6 rfl ?_
  refine fk_iconst (v := nI 0) d_Pl_reachesFinal_7 (by decide +kernel) ?_
  refine fk_put (w' := [(p0, .inr (5, [.ref p1, .int (nI 0)])), fk_ai E p1 15 fr, (n0, .inr (2, [.ref n1, .ref n2, .ref n3, .ref n4, .int (nI cnt), .int (nI fi), .int (nI la), .int (nI lo), .int (nI me)])), fk_al E n3 7 tk, fk_al E n4 7 pu]) 0 1 fT_Pl fT_Pl_ok fT_Pl_nm rfl rfl fh_Pl (Nat.le_of_ble_eq_true rfl) fw_128 rfl (fT_Pl_ok 1 (Nat.le_of_ble_eq_true rfl)) rfl rfl (Nat.le_of_ble_eq_true rfl) d_Pl_reachesFinal_8 rfl ?_
  
  have L11 : ∀ (fuel : Nat) (n : Nat) (x : Nat) (f1 : Nat → Nat), (n ≤ 15) → (fp_R O I me tp n x f1) → (fp_bd x n) → (∀ z, z < n → f1 z < 7) → 15 - n < fuel → fk_V E (prog_5_method_4_code, fy_Pl_reachesFinal.cls, 10, fk_rm 2 0 0) K (0, 0) [(p0, .inr (5, [.ref p1, .int (nI n)])), fk_ai E p1 15 f1, (n0, .inr (2, [.ref n1, .ref n2, .ref n3, .ref n4, .int (nI cnt), .int (nI fi), .int (nI la), .int (nI lo), .int (nI me)])), fk_al E n3 7 tk, fk_al E n4 7 pu] 11 [(0, .ref p0), (1, .ref n0), (4, .long (lN x)), (6, .long (lN (tp / 2 ^ (3 * n))))] [] := by
    intro fuel
    induction fuel with
    | zero => intro n x f1 _ _ _ _ hm; exact absurd hm (Nat.not_lt_zero _)
    | succ fuel ih =>
      intro n x f1 h1 h2 h3 h4 hm11
      have ih11 := ih
      clear ih
      refine fk_aload_n 0 d_Pl_reachesFinal_11 rfl ?_
      refine fk_get 0 1 rfl rfl fh_Pl (Nat.le_of_ble_eq_true rfl) fw_128 rfl d_Pl_reachesFinal_12 ?_
      refine fk_bipush (v := nI 15) d_Pl_reachesFinal_15 (by decide +kernel) ?_
      refine fk_icmp_ge (a := n) (b := 15) (by omega) (by omega) d_Pl_reachesFinal_17 rfl (fun h17t => ?_) (fun h17f => ?_)
      · have g6 := fp_R_end h2 h1 (Or.inl h17t)
        refine fk_lload 2 d_Pl_reachesFinal_98 rfl ?_
        refine fk_ldc2 (v := (16 : Int64)) d_Pl_reachesFinal_100 fw_475 ?_
        refine fk_topl (show (16 : Int64) = lN 16 by decide +kernel) ?_
        refine fk_lcmpR d_Pl_reachesFinal_103 ?_
        refine fk_cmp_ne (a := x) (b := 16) (h3.1) (by decide) d_Pl_reachesFinal_104 rfl (fun h104t => ?_) (fun h104f => ?_)
        · refine fk_iconst (v := nI 0) d_Pl_reachesFinal_111 (by decide +kernel) ?_
          refine fk_top (fn_rf (b := decide ((fp_run O I me tp 16).1 = 16)) (by first | (rw [g6.1]; exact decide_eq_true h104f) | (rw [g6.1]; exact decide_eq_false h104t))) ?_
          have hpp : n ≤ 15 ∧ ((fp_run O I me tp 16).1 = 16 → n = (fp_run O I me tp 16).2.1 ∧ ∀ z, z < n → f1 z = (fp_run O I me tp 16).2.2.1 z ∧ f1 z < 7) := ⟨h1, fun _ => ⟨g6.2.1.symm, fun z hz => ⟨g6.2.2 z hz, h4 z hz⟩⟩⟩
          exact hret (0, 0) _ 112 _ (n, f1) d_Pl_reachesFinal_112 (hpp) (rfl)
        · refine fk_iconst (v := nI 1) d_Pl_reachesFinal_107 (by decide +kernel) ?_
          refine fk_goto d_Pl_reachesFinal_108 rfl ?_
          refine fk_top (fn_rt (b := decide ((fp_run O I me tp 16).1 = 16)) (by first | (rw [g6.1]; exact decide_eq_true h104f) | (rw [g6.1]; exact decide_eq_false h104t))) ?_
          have hpp : n ≤ 15 ∧ ((fp_run O I me tp 16).1 = 16 → n = (fp_run O I me tp 16).2.1 ∧ ∀ z, z < n → f1 z = (fp_run O I me tp 16).2.2.1 z ∧ f1 z < 7) := ⟨h1, fun _ => ⟨g6.2.1.symm, fun z hz => ⟨g6.2.2 z hz, h4 z hz⟩⟩⟩
          exact hret (0, 0) _ 112 _ (n, f1) d_Pl_reachesFinal_112 (hpp) (rfl)
      · refine fk_lload 2 d_Pl_reachesFinal_20 rfl ?_
        refine fk_ldc2 (v := (16 : Int64)) d_Pl_reachesFinal_22 fw_475 ?_
        refine fk_topl (show (16 : Int64) = lN 16 by decide +kernel) ?_
        refine fk_lcmpR d_Pl_reachesFinal_25 ?_
        refine fk_cmp_eq (a := x) (b := 16) (h3.1) (by decide) d_Pl_reachesFinal_26 rfl (fun h26t => ?_) (fun h26f => ?_)
        · have g6 := fp_R_end h2 h1 (Or.inr h26t)
          refine fk_lload 2 d_Pl_reachesFinal_98 rfl ?_
          refine fk_ldc2 (v := (16 : Int64)) d_Pl_reachesFinal_100 fw_475 ?_
          refine fk_topl (show (16 : Int64) = lN 16 by decide +kernel) ?_
          refine fk_lcmpR d_Pl_reachesFinal_103 ?_
          refine fk_cmp_ne (a := x) (b := 16) (h3.1) (by decide) d_Pl_reachesFinal_104 rfl (fun h104t => ?_) (fun h104f => ?_)
          · refine fk_iconst (v := nI 0) d_Pl_reachesFinal_111 (by decide +kernel) ?_
            refine fk_top (fn_rf (b := decide ((fp_run O I me tp 16).1 = 16)) (by first | (rw [g6.1]; exact decide_eq_true h104f) | (rw [g6.1]; exact decide_eq_false h104t))) ?_
            have hpp : n ≤ 15 ∧ ((fp_run O I me tp 16).1 = 16 → n = (fp_run O I me tp 16).2.1 ∧ ∀ z, z < n → f1 z = (fp_run O I me tp 16).2.2.1 z ∧ f1 z < 7) := ⟨h1, fun _ => ⟨g6.2.1.symm, fun z hz => ⟨g6.2.2 z hz, h4 z hz⟩⟩⟩
            exact hret (0, 0) _ 112 _ (n, f1) d_Pl_reachesFinal_112 (hpp) (rfl)
          · refine fk_iconst (v := nI 1) d_Pl_reachesFinal_107 (by decide +kernel) ?_
            refine fk_goto d_Pl_reachesFinal_108 rfl ?_
            refine fk_top (fn_rt (b := decide ((fp_run O I me tp 16).1 = 16)) (by first | (rw [g6.1]; exact decide_eq_true h104f) | (rw [g6.1]; exact decide_eq_false h104t))) ?_
            have hpp : n ≤ 15 ∧ ((fp_run O I me tp 16).1 = 16 → n = (fp_run O I me tp 16).2.1 ∧ ∀ z, z < n → f1 z = (fp_run O I me tp 16).2.2.1 z ∧ f1 z < 7) := ⟨h1, fun _ => ⟨g6.2.1.symm, fun z hz => ⟨g6.2.2 z hz, h4 z hz⟩⟩⟩
            exact hret (0, 0) _ 112 _ (n, f1) d_Pl_reachesFinal_112 (hpp) (rfl)
        · refine fk_aload_n 1 d_Pl_reachesFinal_29 rfl ?_
          refine fk_lload 2 d_Pl_reachesFinal_30 rfl ?_
          refine fk_callV (q0 := 2) (As := [.long (lN x)]) (rest := []) (is := [2, 3]) (ir := [0, 1, 4]) (ip := [0, 1, 3, 4, 2]) (wc := [(n0, .inr (2, [.ref n1, .ref n2, .ref n3, .ref n4, .int (nI cnt), .int (nI fi), .int (nI la), .int (nI lo), .int (nI me)])), fk_al E n3 7 tk]) (wr := [(p0, .inr (5, [.ref p1, .int (nI n)])), fk_ai E p1 15 f1, fk_al E n4 7 pu]) (w2 := fun _ => [(p0, .inr (5, [.ref p1, .int (nI n)])), fk_ai E p1 15 f1, (n0, .inr (2, [.ref n1, .ref n2, .ref n3, .ref n4, .int (nI cnt), .int (nI fi), .int (nI la), .int (nI lo), .int (nI me)])), fk_al E n3 7 tk, fk_al E n4 7 pu]) (cN_enabledIn E n0 n1 n2 n3 n4 cnt fi la lo me tk O x h3.1 (by first | omega | assumption) (by first | omega | assumption)) d_Pl_reachesFinal_32 fz_Nt_enabledIn fw_476 rfl rfl fw_369 fw_370 ⟨Nat.le_of_ble_eq_true rfl, Nat.le_of_ble_eq_true rfl⟩ rfl (Nat.le_of_ble_eq_true rfl) ⟨Nat.zero_le _, Nat.zero_le _⟩ ⟨rfl, rfl, rfl, rfl, by decide, fun _ => rfl, rfl⟩ (fun u hu32 => ?_)
          show fk_V E _ K (0, 0) [(p0, .inr (5, [.ref p1, .int (nI n)])), fk_ai E p1 15 f1, (n0, .inr (2, [.ref n1, .ref n2, .ref n3, .ref n4, .int (nI cnt), .int (nI fi), .int (nI la), .int (nI lo), .int (nI me)])), fk_al E n3 7 tk, fk_al E n4 7 pu] 35 [(0, .ref p0), (1, .ref n0), (4, .long (lN x)), (6, .long (lN (tp / 2 ^ (3 * n))))] [.int (nI (fs_ens O me x))]
          refine fk_istore (lv' := [(0, .ref p0), (1, .ref n0), (4, .long (lN x)), (6, .long (lN (tp / 2 ^ (3 * n)))), (8, .int (nI (fs_ens O me x)))]) d_Pl_reachesFinal_35 (Nat.le_of_ble_eq_true rfl) [1, 2, 3, 4, 0] rfl ?_
          refine fk_iload 4 d_Pl_reachesFinal_37 rfl ?_
          refine fk_if_ne (a := (fs_ens O me x)) (by have := fs_ens_lt O me x; omega) d_Pl_reachesFinal_39 rfl (fun h39t => ?_) (fun h39f => ?_)
          · have g1 := fs_ens_lt O me x
            have g2 : fp_ch O me tp x n < 7 ∧ (fs_ens O me x).testBit (fp_ch O me tp x n) = true := fp_pk_ok g1 h39t
            have g3 : fs_can O x (fp_ch O me tp x n) = true := fs_en_can ((fe_en_bit g2.1).symm.trans g2.2)
            have g4 : tp / 2 ^ (3 * n) % 8 < 8 := Nat.mod_lt _ (by decide)
            refine fk_iload 4 d_Pl_reachesFinal_44 rfl ?_
            refine fk_lload 3 d_Pl_reachesFinal_46 rfl ?_
            refine fk_ldc2 (v := (7 : Int64)) d_Pl_reachesFinal_48 fw_477 ?_
            refine fk_topl (show (7 : Int64) = lN 7 by decide +kernel) ?_
            refine fk_landR d_Pl_reachesFinal_51 ?_
            refine fk_topl (show lN (tp / 2 ^ (3 * n)) &&& lN 7 = lN ((tp / 2 ^ (3 * n)) &&& 7) from fn_land (fm_div_lt ht) (by decide)) ?_
            refine fk_topl (show (lN ((tp / 2 ^ (3 * n)) &&& 7)) = (lN (tp / 2 ^ (3 * n) % 8)) from congrArg lN (Nat.and_two_pow_sub_one_eq_mod _ 3)) ?_
            refine fk_l2i d_Pl_reachesFinal_52 (lN_i (tp / 2 ^ (3 * n) % 8)) ?_
            refine fk_callS (As := [.int (nI (fs_ens O me x)), .int (nI (tp / 2 ^ (3 * n) % 8))]) (rest := []) (is := []) (ir := [0, 1, 2, 3, 4]) (ip := [0, 1, 2, 3, 4]) (wc := []) (wr := [(p0, .inr (5, [.ref p1, .int (nI n)])), fk_ai E p1 15 f1, (n0, .inr (2, [.ref n1, .ref n2, .ref n3, .ref n4, .int (nI cnt), .int (nI fi), .int (nI la), .int (nI lo), .int (nI me)])), fk_al E n3 7 tk, fk_al E n4 7 pu]) (w2 := fun _ => [(p0, .inr (5, [.ref p1, .int (nI n)])), fk_ai E p1 15 f1, (n0, .inr (2, [.ref n1, .ref n2, .ref n3, .ref n4, .int (nI cnt), .int (nI fi), .int (nI la), .int (nI lo), .int (nI me)])), fk_al E n3 7 tk, fk_al E n4 7 pu]) (cP_chosenOf E (fs_ens O me x) (tp / 2 ^ (3 * n) % 8) (by first | omega | assumption) (by first | omega | assumption) (by first | omega | assumption)) d_Pl_reachesFinal_53 fz_Pl_chosenOf fw_478 fw_479 ⟨Nat.le_of_ble_eq_true rfl, Nat.le_of_ble_eq_true rfl⟩ rfl (Nat.le_of_ble_eq_true rfl) ⟨Nat.zero_le _, Nat.zero_le _⟩ ⟨rfl, rfl, rfl, rfl, by decide, fun _ => rfl, rfl⟩ (fun u hu53 => ?_)
            show fk_V E _ K (0, 0) [(p0, .inr (5, [.ref p1, .int (nI n)])), fk_ai E p1 15 f1, (n0, .inr (2, [.ref n1, .ref n2, .ref n3, .ref n4, .int (nI cnt), .int (nI fi), .int (nI la), .int (nI lo), .int (nI me)])), fk_al E n3 7 tk, fk_al E n4 7 pu] 56 [(0, .ref p0), (1, .ref n0), (4, .long (lN x)), (6, .long (lN (tp / 2 ^ (3 * n)))), (8, .int (nI (fs_ens O me x)))] [.int (nI (fp_pk (fs_ens O me x) 7 0 ((tp / 2 ^ (3 * n) % 8) % fs_bc (fs_ens O me x) 7)))]
            refine fk_top (show (nI (fp_pk (fs_ens O me x) 7 0 ((tp / 2 ^ (3 * n) % 8) % fs_bc (fs_ens O me x) 7))) = (nI (fp_ch O me tp x n)) from rfl) ?_
            refine fk_istore (lv' := [(0, .ref p0), (1, .ref n0), (4, .long (lN x)), (6, .long (lN (tp / 2 ^ (3 * n)))), (8, .int (nI (fs_ens O me x))), (9, .int (nI (fp_ch O me tp x n)))]) d_Pl_reachesFinal_56 (Nat.le_of_ble_eq_true rfl) [1, 2, 3, 4, 5, 0] rfl ?_
            refine fk_aload_n 0 d_Pl_reachesFinal_58 rfl ?_
            refine fk_get 0 0 rfl rfl fh_Pl (Nat.le_of_ble_eq_true rfl) fw_127 rfl d_Pl_reachesFinal_59 ?_
            refine fk_aload_n 0 d_Pl_reachesFinal_62 rfl ?_
            refine fk_get 0 1 rfl rfl fh_Pl (Nat.le_of_ble_eq_true rfl) fw_128 rfl d_Pl_reachesFinal_63 ?_
            refine fk_iload 5 d_Pl_reachesFinal_66 rfl ?_
            refine fk_st_ai (i := n) (x := (fp_ch O me tp x n)) (w' := [(p0, .inr (5, [.ref p1, .int (nI n)])), fk_ai E p1 15 (va_up f1 n (fp_ch O me tp x n)), (n0, .inr (2, [.ref n1, .ref n2, .ref n3, .ref n4, .int (nI cnt), .int (nI fi), .int (nI la), .int (nI lo), .int (nI me)])), fk_al E n3 7 tk, fk_al E n4 7 pu]) 1 rfl (by omega) (by decide) d_Pl_reachesFinal_68 rfl ?_
            refine fk_aload_n 0 d_Pl_reachesFinal_69 rfl ?_
            refine fk_dup d_Pl_reachesFinal_70 rfl ?_
            refine fk_get 0 1 rfl rfl fh_Pl (Nat.le_of_ble_eq_true rfl) fw_128 rfl d_Pl_reachesFinal_71 ?_
            refine fk_iconst (v := nI 1) d_Pl_reachesFinal_74 (by decide +kernel) ?_
            refine fk_iadd (a := n) (b := 1) d_Pl_reachesFinal_75 ?_
            refine fk_put (w' := [(p0, .inr (5, [.ref p1, .int (nI (n + 1))])), fk_ai E p1 15 (va_up f1 n (fp_ch O me tp x n)), (n0, .inr (2, [.ref n1, .ref n2, .ref n3, .ref n4, .int (nI cnt), .int (nI fi), .int (nI la), .int (nI lo), .int (nI me)])), fk_al E n3 7 tk, fk_al E n4 7 pu]) 0 1 fT_Pl fT_Pl_ok fT_Pl_nm rfl rfl fh_Pl (Nat.le_of_ble_eq_true rfl) fw_128 rfl (fT_Pl_ok 1 (Nat.le_of_ble_eq_true rfl)) rfl rfl (Nat.le_of_ble_eq_true rfl) d_Pl_reachesFinal_76 rfl ?_
            refine fk_aload_n 1 d_Pl_reachesFinal_79 rfl ?_
            refine fk_lload 2 d_Pl_reachesFinal_80 rfl ?_
            refine fk_iload 5 d_Pl_reachesFinal_82 rfl ?_
            refine fk_callV (q0 := 2) (As := [.long (lN x), .int (nI (fp_ch O me tp x n))]) (rest := []) (is := [2, 3, 4]) (ir := [0, 1]) (ip := [0, 1, 2, 3, 4]) (wc := [(n0, .inr (2, [.ref n1, .ref n2, .ref n3, .ref n4, .int (nI cnt), .int (nI fi), .int (nI la), .int (nI lo), .int (nI me)])), fk_al E n3 7 tk, fk_al E n4 7 pu]) (wr := [(p0, .inr (5, [.ref p1, .int (nI (n + 1))])), fk_ai E p1 15 (va_up f1 n (fp_ch O me tp x n))]) (w2 := fun _ => [(p0, .inr (5, [.ref p1, .int (nI (n + 1))])), fk_ai E p1 15 (va_up f1 n (fp_ch O me tp x n)), (n0, .inr (2, [.ref n1, .ref n2, .ref n3, .ref n4, .int (nI cnt), .int (nI fi), .int (nI la), .int (nI lo), .int (nI me)])), fk_al E n3 7 tk, fk_al E n4 7 pu]) (cN_afterFiring E n0 n1 n2 n3 n4 cnt fi la lo me tk pu O I x (fp_ch O me tp x n) h3.1 g2.1 (by first | omega | assumption) (by first | omega | assumption) g3) d_Pl_reachesFinal_84 fz_Nt_afterFiring fw_483 rfl rfl fw_376 fw_377 ⟨Nat.le_of_ble_eq_true rfl, Nat.le_of_ble_eq_true rfl⟩ rfl (Nat.le_of_ble_eq_true rfl) ⟨Nat.zero_le _, Nat.zero_le _⟩ ⟨rfl, rfl, rfl, rfl, by decide, fun _ => rfl, rfl⟩ (fun u hu84 => ?_)
            show fk_V E _ K (0, 0) [(p0, .inr (5, [.ref p1, .int (nI (n + 1))])), fk_ai E p1 15 (va_up f1 n (fp_ch O me tp x n)), (n0, .inr (2, [.ref n1, .ref n2, .ref n3, .ref n4, .int (nI cnt), .int (nI fi), .int (nI la), .int (nI lo), .int (nI me)])), fk_al E n3 7 tk, fk_al E n4 7 pu] 87 [(0, .ref p0), (1, .ref n0), (4, .long (lN x)), (6, .long (lN (tp / 2 ^ (3 * n)))), (8, .int (nI (fs_ens O me x))), (9, .int (nI (fp_ch O me tp x n)))] [.long (lN (fs_fire O I x (fp_ch O me tp x n)))]
            refine fk_lstore (lv' := [(0, .ref p0), (1, .ref n0), (4, .long (lN (fs_fire O I x (fp_ch O me tp x n)))), (6, .long (lN (tp / 2 ^ (3 * n)))), (8, .int (nI (fs_ens O me x))), (9, .int (nI (fp_ch O me tp x n)))]) d_Pl_reachesFinal_87 (Nat.le_of_ble_eq_true rfl) [1, 2, 0, 3, 4, 5] rfl ?_
            refine fk_lload 3 d_Pl_reachesFinal_89 rfl ?_
            refine fk_iconst (v := nI 3) d_Pl_reachesFinal_91 (by decide +kernel) ?_
            refine fk_lushr d_Pl_reachesFinal_92 (fn_lushr (a := (tp / 2 ^ (3 * n))) (k := 3) (fm_div_lt ht) (by decide)) ?_
            refine fk_topl (show (lN ((tp / 2 ^ (3 * n)) / 2 ^ 3)) = (lN (tp / 2 ^ (3 * (n + 1)))) from congrArg lN (by rw [Nat.div_div_eq_div_mul, ← Nat.pow_add]; rfl)) ?_
            refine fk_lstore (lv' := [(0, .ref p0), (1, .ref n0), (4, .long (lN (fs_fire O I x (fp_ch O me tp x n)))), (6, .long (lN (tp / 2 ^ (3 * (n + 1))))), (8, .int (nI (fs_ens O me x))), (9, .int (nI (fp_ch O me tp x n)))]) d_Pl_reachesFinal_93 (Nat.le_of_ble_eq_true rfl) [1, 2, 3, 0, 4, 5] rfl ?_
            refine fk_goto d_Pl_reachesFinal_95 rfl ?_
            
            refine fk_lv (lv' := [(0, .ref p0), (1, .ref n0), (4, .long (lN (fs_fire O I x (fp_ch O me tp x n)))), (6, .long (lN (tp / 2 ^ (3 * (n + 1)))))]) [0, 1, 2, 3] rfl ?_
            refine ih11 _ _ _ ?_ ?_ ?_ ?_ ?_
            · first | omega | assumption | exact Nat.zero_le _
            · exact fp_R_s h2 h17f h26f h39t
            · exact (fp_fire hI h3 h17f).1
            · intro z hz
              rcases Nat.lt_or_ge z n with q | q
              · rw [va_up_ne _ _ (by omega)]; exact h4 z q
              · rw [show z = n by omega, va_up_self]; exact g2.1
            · omega
          · have g5 := fp_R_dead h2 h17f h26f h39f
            refine fk_iconst (v := nI 0) d_Pl_reachesFinal_42 (by decide +kernel) ?_
            refine fk_top (fn_rf (b := decide ((fp_run O I me tp 16).1 = 16)) (decide_eq_false g5)) ?_
            have hpp : n ≤ 15 ∧ ((fp_run O I me tp 16).1 = 16 → n = (fp_run O I me tp 16).2.1 ∧ ∀ z, z < n → f1 z = (fp_run O I me tp 16).2.2.1 z ∧ f1 z < 7) := ⟨h1, fun q => absurd q g5⟩
            exact hret (0, 0) _ 43 _ (n, f1) d_Pl_reachesFinal_43 (hpp) (rfl)
  refine fk_lv (lv' := [(0, .ref p0), (1, .ref n0), (4, .long (lN 1)), (6, .long (lN (tp / 2 ^ (3 * 0))))]) [0, 1, 3, 4] rfl ?_
  refine L11 _ _ _ _ ?_ ?_ ?_ ?_ (Nat.lt_succ_self _)
  · first | omega | assumption | exact Nat.zero_le _
  · exact fp_R_0 O I me tp fr
  · exact fp_bd_0
  · exact fun z hz => absurd hz (Nat.not_lt_zero z)
