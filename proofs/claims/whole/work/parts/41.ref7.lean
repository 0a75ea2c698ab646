theorem d_Md_same_0 : decode prog_8_method_37_code 0 = .ok (.aload_n 0, 1) := by decide +kernel
theorem d_Md_same_1 : decode prog_8_method_37_code 1 = .ok (.getfield 16, 3) := by decide +kernel
theorem d_Md_same_4 : decode prog_8_method_37_code 4 = .ok (.iconst 0, 1) := by decide +kernel
theorem d_Md_same_5 : decode prog_8_method_37_code 5 = .ok (.iaload, 1) := by decide +kernel
theorem d_Md_same_6 : decode prog_8_method_37_code 6 = .ok (.aload_n 0, 1) := by decide +kernel
theorem d_Md_same_7 : decode prog_8_method_37_code 7 = .ok (.getfield 16, 3) := by decide +kernel
theorem d_Md_same_10 : decode prog_8_method_37_code 10 = .ok (.iconst 1, 1) := by decide +kernel
theorem d_Md_same_11 : decode prog_8_method_37_code 11 = .ok (.iaload, 1) := by decide +kernel
theorem d_Md_same_12 : decode prog_8_method_37_code 12 = .ok (.if_icmp .ne 51, 3) := by decide +kernel
theorem d_Md_same_15 : decode prog_8_method_37_code 15 = .ok (.aload_n 0, 1) := by decide +kernel
theorem d_Md_same_16 : decode prog_8_method_37_code 16 = .ok (.getfield 25, 3) := by decide +kernel
theorem d_Md_same_19 : decode prog_8_method_37_code 19 = .ok (.iconst 0, 1) := by decide +kernel
theorem d_Md_same_20 : decode prog_8_method_37_code 20 = .ok (.iaload, 1) := by decide +kernel
theorem d_Md_same_21 : decode prog_8_method_37_code 21 = .ok (.aload_n 0, 1) := by decide +kernel
theorem d_Md_same_22 : decode prog_8_method_37_code 22 = .ok (.getfield 25, 3) := by decide +kernel
theorem d_Md_same_25 : decode prog_8_method_37_code 25 = .ok (.iconst 1, 1) := by decide +kernel
theorem d_Md_same_26 : decode prog_8_method_37_code 26 = .ok (.iaload, 1) := by decide +kernel
theorem d_Md_same_27 : decode prog_8_method_37_code 27 = .ok (.if_icmp .ne 36, 3) := by decide +kernel
theorem d_Md_same_30 : decode prog_8_method_37_code 30 = .ok (.aload_n 0, 1) := by decide +kernel
theorem d_Md_same_31 : decode prog_8_method_37_code 31 = .ok (.getfield 28, 3) := by decide +kernel
theorem d_Md_same_34 : decode prog_8_method_37_code 34 = .ok (.iconst 0, 1) := by decide +kernel
theorem d_Md_same_35 : decode prog_8_method_37_code 35 = .ok (.iaload, 1) := by decide +kernel
theorem d_Md_same_36 : decode prog_8_method_37_code 36 = .ok (.aload_n 0, 1) := by decide +kernel
theorem d_Md_same_37 : decode prog_8_method_37_code 37 = .ok (.getfield 28, 3) := by decide +kernel
theorem d_Md_same_40 : decode prog_8_method_37_code 40 = .ok (.iconst 1, 1) := by decide +kernel
theorem d_Md_same_41 : decode prog_8_method_37_code 41 = .ok (.iaload, 1) := by decide +kernel
theorem d_Md_same_42 : decode prog_8_method_37_code 42 = .ok (.if_icmp .ne 21, 3) := by decide +kernel
theorem d_Md_same_45 : decode prog_8_method_37_code 45 = .ok (.aload_n 0, 1) := by decide +kernel
theorem d_Md_same_46 : decode prog_8_method_37_code 46 = .ok (.iconst 0, 1) := by decide +kernel
theorem d_Md_same_47 : decode prog_8_method_37_code 47 = .ok (.invokevirtual 86, 3) := by decide +kernel
theorem d_Md_same_50 : decode prog_8_method_37_code 50 = .ok (.aload_n 0, 1) := by decide +kernel
theorem d_Md_same_51 : decode prog_8_method_37_code 51 = .ok (.getfield 31, 3) := by decide +kernel
theorem d_Md_same_54 : decode prog_8_method_37_code 54 = .ok (.iconst 1, 1) := by decide +kernel
theorem d_Md_same_55 : decode prog_8_method_37_code 55 = .ok (.iaload, 1) := by decide +kernel
theorem d_Md_same_56 : decode prog_8_method_37_code 56 = .ok (.if_icmp .ne 7, 3) := by decide +kernel
theorem d_Md_same_59 : decode prog_8_method_37_code 59 = .ok (.iconst 1, 1) := by decide +kernel
theorem d_Md_same_60 : decode prog_8_method_37_code 60 = .ok (.goto 4, 3) := by decide +kernel
theorem d_Md_same_63 : decode prog_8_method_37_code 63 = .ok (.iconst 0, 1) := by decide +kernel
theorem d_Md_same_64 : decode prog_8_method_37_code 64 = .ok (.istore_n 1, 1) := by decide +kernel
theorem d_Md_same_65 : decode prog_8_method_37_code 65 = .ok (.iconst 0, 1) := by decide +kernel
theorem d_Md_same_66 : decode prog_8_method_37_code 66 = .ok (.istore_n 2, 1) := by decide +kernel
theorem d_Md_same_67 : decode prog_8_method_37_code 67 = .ok (.iload_n 2, 1) := by decide +kernel
theorem d_Md_same_68 : decode prog_8_method_37_code 68 = .ok (.aload_n 0, 1) := by decide +kernel
theorem d_Md_same_69 : decode prog_8_method_37_code 69 = .ok (.getfield 16, 3) := by decide +kernel
theorem d_Md_same_72 : decode prog_8_method_37_code 72 = .ok (.iconst 0, 1) := by decide +kernel
theorem d_Md_same_73 : decode prog_8_method_37_code 73 = .ok (.iaload, 1) := by decide +kernel
theorem d_Md_same_74 : decode prog_8_method_37_code 74 = .ok (.if_icmp .ge 91, 3) := by decide +kernel
theorem d_Md_same_77 : decode prog_8_method_37_code 77 = .ok (.iconst 0, 1) := by decide +kernel
theorem d_Md_same_78 : decode prog_8_method_37_code 78 = .ok (.istore_n 3, 1) := by decide +kernel
theorem d_Md_same_79 : decode prog_8_method_37_code 79 = .ok (.bipush 14, 2) := by decide +kernel
theorem d_Md_same_81 : decode prog_8_method_37_code 81 = .ok (.istore 4, 2) := by decide +kernel
theorem d_Md_same_83 : decode prog_8_method_37_code 83 = .ok (.iload 4, 2) := by decide +kernel
theorem d_Md_same_85 : decode prog_8_method_37_code 85 = .ok (.bipush 14, 2) := by decide +kernel
theorem d_Md_same_87 : decode prog_8_method_37_code 87 = .ok (.aload_n 0, 1) := by decide +kernel
theorem d_Md_same_88 : decode prog_8_method_37_code 88 = .ok (.getfield 16, 3) := by decide +kernel
theorem d_Md_same_91 : decode prog_8_method_37_code 91 = .ok (.iconst 1, 1) := by decide +kernel
theorem d_Md_same_92 : decode prog_8_method_37_code 92 = .ok (.iaload, 1) := by decide +kernel
theorem d_Md_same_93 : decode prog_8_method_37_code 93 = .ok (.iadd, 1) := by decide +kernel
theorem d_Md_same_94 : decode prog_8_method_37_code 94 = .ok (.if_icmp .ge 51, 3) := by decide +kernel
theorem d_Md_same_97 : decode prog_8_method_37_code 97 = .ok (.iload_n 3, 1) := by decide +kernel
theorem d_Md_same_98 : decode prog_8_method_37_code 98 = .ok (.ifCond .ne 35, 3) := by decide +kernel
theorem d_Md_same_101 : decode prog_8_method_37_code 101 = .ok (.aload_n 0, 1) := by decide +kernel
theorem d_Md_same_102 : decode prog_8_method_37_code 102 = .ok (.getfield 19, 3) := by decide +kernel
theorem d_Md_same_105 : decode prog_8_method_37_code 105 = .ok (.iload 4, 2) := by decide +kernel
theorem d_Md_same_107 : decode prog_8_method_37_code 107 = .ok (.iaload, 1) := by decide +kernel
theorem d_Md_same_108 : decode prog_8_method_37_code 108 = .ok (.aload_n 0, 1) := by decide +kernel
theorem d_Md_same_109 : decode prog_8_method_37_code 109 = .ok (.getfield 19, 3) := by decide +kernel
theorem d_Md_same_112 : decode prog_8_method_37_code 112 = .ok (.iload_n 2, 1) := by decide +kernel
theorem d_Md_same_113 : decode prog_8_method_37_code 113 = .ok (.iaload, 1) := by decide +kernel
theorem d_Md_same_114 : decode prog_8_method_37_code 114 = .ok (.if_icmp .ne 23, 3) := by decide +kernel
theorem d_Md_same_117 : decode prog_8_method_37_code 117 = .ok (.aload_n 0, 1) := by decide +kernel
theorem d_Md_same_118 : decode prog_8_method_37_code 118 = .ok (.getfield 22, 3) := by decide +kernel
theorem d_Md_same_121 : decode prog_8_method_37_code 121 = .ok (.iload 4, 2) := by decide +kernel
theorem d_Md_same_123 : decode prog_8_method_37_code 123 = .ok (.iaload, 1) := by decide +kernel
theorem d_Md_same_124 : decode prog_8_method_37_code 124 = .ok (.aload_n 0, 1) := by decide +kernel
theorem d_Md_same_125 : decode prog_8_method_37_code 125 = .ok (.getfield 22, 3) := by decide +kernel
theorem d_Md_same_128 : decode prog_8_method_37_code 128 = .ok (.iload_n 2, 1) := by decide +kernel
theorem d_Md_same_129 : decode prog_8_method_37_code 129 = .ok (.iaload, 1) := by decide +kernel
theorem d_Md_same_130 : decode prog_8_method_37_code 130 = .ok (.if_icmp .ne 7, 3) := by decide +kernel
theorem d_Md_same_133 : decode prog_8_method_37_code 133 = .ok (.iconst 1, 1) := by decide +kernel
theorem d_Md_same_134 : decode prog_8_method_37_code 134 = .ok (.goto 4, 3) := by decide +kernel
theorem d_Md_same_137 : decode prog_8_method_37_code 137 = .ok (.iconst 0, 1) := by decide +kernel
theorem d_Md_same_138 : decode prog_8_method_37_code 138 = .ok (.istore_n 3, 1) := by decide +kernel
theorem d_Md_same_139 : decode prog_8_method_37_code 139 = .ok (.iinc 4 1, 3) := by decide +kernel
theorem d_Md_same_142 : decode prog_8_method_37_code 142 = .ok (.goto (-59), 3) := by decide +kernel
theorem d_Md_same_145 : decode prog_8_method_37_code 145 = .ok (.iload_n 1, 1) := by decide +kernel
theorem d_Md_same_146 : decode prog_8_method_37_code 146 = .ok (.ifCond .eq 11, 3) := by decide +kernel
theorem d_Md_same_149 : decode prog_8_method_37_code 149 = .ok (.iload_n 3, 1) := by decide +kernel
theorem d_Md_same_150 : decode prog_8_method_37_code 150 = .ok (.ifCond .eq 7, 3) := by decide +kernel
theorem d_Md_same_153 : decode prog_8_method_37_code 153 = .ok (.iconst 1, 1) := by decide +kernel
theorem d_Md_same_154 : decode prog_8_method_37_code 154 = .ok (.goto 4, 3) := by decide +kernel
theorem d_Md_same_157 : decode prog_8_method_37_code 157 = .ok (.iconst 0, 1) := by decide +kernel
theorem d_Md_same_158 : decode prog_8_method_37_code 158 = .ok (.istore_n 1, 1) := by decide +kernel
theorem d_Md_same_159 : decode prog_8_method_37_code 159 = .ok (.iinc 2 1, 3) := by decide +kernel
theorem d_Md_same_162 : decode prog_8_method_37_code 162 = .ok (.goto (-95), 3) := by decide +kernel
theorem d_Md_same_165 : decode prog_8_method_37_code 165 = .ok (.iload_n 1, 1) := by decide +kernel
theorem d_Md_same_166 : decode prog_8_method_37_code 166 = .ok (.ireturn, 1) := by decide +kernel
set_option maxRecDepth 20000 in
set_option maxHeartbeats 4000000 in
theorem cD_same (E : fk_E) (b0 : Nat) (b1 : Nat) (b2 : Nat) (b3 : Nat) (b4 : Nat) (b5 : Nat) (b6 : Nat) (b7 : Nat) (b8 : Nat) (b9 : Nat) (b10 : Nat) (b11 : Nat) (b12 : Nat) (b13 : Nat) (b14 : Nat) (b15 : Nat) (mt : Nat) (mf : Nat) (my : Nat) (mw : Bool) (mc : Nat → Nat) (mi : Nat → Nat) (mu : Nat → Nat) (mfi : Nat → Nat) (mla : Nat → Nat) (mac : Nat → Nat) (hN : fr_N mc mi mu mfi mla) (hm1 : mac 1 < 128) : fk_C E fy_Md_same prog_8_method_37_code 5 (some .boolean) 1 0 0 [.ref b0] [(b0, .inr (6, [.int (nI mt), .ref b1, .ref b2, .ref b3, .ref b4, .ref b5, .ref b6, .ref b7, .ref b8, .ref b9, .int (nI mf), .ref b10, .ref b11, .ref b12, .int (nI my), .int (nI (Bool.toNat mw)), .ref b13, .ref b14, .ref b15])), fk_ai E b3 2 mc, fk_ai E b4 28 mi, fk_ai E b5 28 mu, fk_ai E b6 2 mfi, fk_ai E b7 2 mla, fk_ai E b8 2 mac] (S := Unit) (fun _ => some (.int (nI (Bool.toNat (decide (fr_me mc mi mu mfi mla mac 0 = mac 1 ∧ mfi 0 = mfi 1 ∧ mla 0 = mla 1 ∧ mc 0 = mc 1) && fs_all (fun z9 => fs_any (fun z8 => decide (mi (14 + z8) = mi z9) && decide (mu (14 + z8) = mu z9)) (mc 1)) (mc 0)))))) (fun _ => True) (fun _ => [(b0, .inr (6, [.int (nI mt), .ref b1, .ref b2, .ref b3, .ref b4, .ref b5, .ref b6, .ref b7, .ref b8, .ref b9, .int (nI mf), .ref b10, .ref b11, .ref b12, .int (nI my), .int (nI (Bool.toNat mw)), .ref b13, .ref b14, .ref b15])), fk_ai E b3 2 mc, fk_ai E b4 28 mi, fk_ai E b5 28 mu, fk_ai E b6 2 mfi, fk_ai E b7 2 mla, fk_ai E b8 2 mac]) := by
  refine fk_enterZ (v := fun _ => decide (fr_me mc mi mu mfi mla mac 0 = mac 1 ∧ mfi 0 = mfi 1 ∧ mla 0 = mla 1 ∧ mc 0 = mc 1) && fs_all (fun z9 => fs_any (fun z8 => decide (mi (14 + z8) = mi z9) && decide (mu (14 + z8) = mu z9)) (mc 1)) (mc 0)) (by decide) (Nat.le_of_ble_eq_true rfl) (lv0 := [(0, .ref b0)]) rfl ?_
  intro K hini hret
  have g0 := hN.2 0 (by decide)
  have g1 := hN.2 1 (by decide)
  have g2 := fr_me_lt (q := 0) hN hm1
  have L64 : ∀ (al : Bool), (al = decide (fr_me mc mi mu mfi mla mac 0 = mac 1 ∧ mfi 0 = mfi 1 ∧ mla 0 = mla 1 ∧ mc 0 = mc 1)) → fk_V E (prog_8_method_37_code, fy_Md_same.cls, 5, fk_rm 1 0 0) K (0, 0) [(b0, .inr (6, [.int (nI mt), .ref b1, .ref b2, .ref b3, .ref b4, .ref b5, .ref b6, .ref b7, .ref b8, .ref b9, .int (nI mf), .ref b10, .ref b11, .ref b12, .int (nI my), .int (nI (Bool.toNat mw)), .ref b13, .ref b14, .ref b15])), fk_ai E b3 2 mc, fk_ai E b4 28 mi, fk_ai E b5 28 mu, fk_ai E b6 2 mfi, fk_ai E b7 2 mla, fk_ai E b8 2 mac] 64 [(0, .ref b0)] [.int (nI (Bool.toNat al))] := by
    intro al j0
    refine fk_istore_n (lv' := [(0, .ref b0), (1, .int (nI (Bool.toNat al)))]) d_Md_same_64 rfl (Nat.le_of_ble_eq_true rfl) [1, 0] rfl ?_
    refine fk_iconst (v := nI 0) d_Md_same_65 (by decide +kernel) ?_
    refine fk_istore_n (lv' := [(0, .ref b0), (1, .int (nI (Bool.toNat al))), (2, .int (nI 0))]) d_Md_same_66 rfl (Nat.le_of_ble_eq_true rfl) [1, 2, 0] rfl ?_
    have L67 : ∀ (fuel : Nat) (a1 : Bool) (k : Nat), (k ≤ mc 0) → (a1 = (decide (fr_me mc mi mu mfi mla mac 0 = mac 1 ∧ mfi 0 = mfi 1 ∧ mla 0 = mla 1 ∧ mc 0 = mc 1) && fs_all (fun z9 => fs_any (fun z8 => decide (mi (14 + z8) = mi z9) && decide (mu (14 + z8) = mu z9)) (mc 1)) k)) → mc 0 - k < fuel → fk_V E (prog_8_method_37_code, fy_Md_same.cls, 5, fk_rm 1 0 0) K (0, 0) [(b0, .inr (6, [.int (nI mt), .ref b1, .ref b2, .ref b3, .ref b4, .ref b5, .ref b6, .ref b7, .ref b8, .ref b9, .int (nI mf), .ref b10, .ref b11, .ref b12, .int (nI my), .int (nI (Bool.toNat mw)), .ref b13, .ref b14, .ref b15])), fk_ai E b3 2 mc, fk_ai E b4 28 mi, fk_ai E b5 28 mu, fk_ai E b6 2 mfi, fk_ai E b7 2 mla, fk_ai E b8 2 mac] 67 [(0, .ref b0), (1, .int (nI (Bool.toNat a1))), (2, .int (nI k))] [] := by
      intro fuel
      induction fuel with
      | zero => intro a1 k _ _ hm; exact absurd hm (Nat.not_lt_zero _)
      | succ fuel ih =>
        intro a1 k h1 h2 hm67
        have ih67 := ih
        clear ih
        refine fk_iload_n 2 d_Md_same_67 rfl ?_
        refine fk_aload_n 0 d_Md_same_68 rfl ?_
        refine fk_get 0 3 rfl rfl fh_Md (Nat.le_of_ble_eq_true rfl) fw_510 rfl d_Md_same_69 ?_
        refine fk_iconst (v := nI 0) d_Md_same_72 (by decide +kernel) ?_
        refine fk_ld_ai (i := 0) 1 rfl (by omega) (by decide) d_Md_same_73 ?_
        refine fk_icmp_ge (a := k) (b := (mc 0)) (by omega) (by omega) d_Md_same_74 rfl (fun h74t => ?_) (fun h74f => ?_)
        · have e9 : k = mc 0 := by omega
          rw [e9] at h2
          refine fk_iload_n 1 d_Md_same_165 rfl ?_
          refine fk_top (congrArg (fun b : Bool => nI b.toNat) (show a1 = (decide (fr_me mc mi mu mfi mla mac 0 = mac 1 ∧ mfi 0 = mfi 1 ∧ mla 0 = mla 1 ∧ mc 0 = mc 1) && fs_all (fun z9 => fs_any (fun z8 => decide (mi (14 + z8) = mi z9) && decide (mu (14 + z8) = mu z9)) (mc 1)) (mc 0)) from h2)) ?_
          exact hret (0, 0) _ 166 _ () d_Md_same_166 (trivial) (rfl)
        · have g3 := hN.1 k (by omega)
          refine fk_iconst (v := nI 0) d_Md_same_77 (by decide +kernel) ?_
          refine fk_istore_n (lv' := [(0, .ref b0), (1, .int (nI (Bool.toNat a1))), (2, .int (nI k)), (3, .int (nI 0))]) d_Md_same_78 rfl (Nat.le_of_ble_eq_true rfl) [1, 2, 3, 0] rfl ?_
          refine fk_bipush (v := nI 14) d_Md_same_79 (by decide +kernel) ?_
          refine fk_istore (lv' := [(0, .ref b0), (1, .int (nI (Bool.toNat a1))), (2, .int (nI k)), (3, .int (nI 0)), (4, .int (nI 14))]) d_Md_same_81 (Nat.le_of_ble_eq_true rfl) [1, 2, 3, 4, 0] rfl ?_
          have L83 : ∀ (fuel : Nat) (th : Bool) (j : Nat), (j ≤ mc 1) → (th = fs_any (fun z8 => decide (mi (14 + z8) = mi k) && decide (mu (14 + z8) = mu k)) j) → mc 1 - j < fuel → fk_V E (prog_8_method_37_code, fy_Md_same.cls, 5, fk_rm 1 0 0) K (0, 0) [(b0, .inr (6, [.int (nI mt), .ref b1, .ref b2, .ref b3, .ref b4, .ref b5, .ref b6, .ref b7, .ref b8, .ref b9, .int (nI mf), .ref b10, .ref b11, .ref b12, .int (nI my), .int (nI (Bool.toNat mw)), .ref b13, .ref b14, .ref b15])), fk_ai E b3 2 mc, fk_ai E b4 28 mi, fk_ai E b5 28 mu, fk_ai E b6 2 mfi, fk_ai E b7 2 mla, fk_ai E b8 2 mac] 83 [(0, .ref b0), (1, .int (nI (Bool.toNat a1))), (2, .int (nI k)), (3, .int (nI (Bool.toNat th))), (4, .int (nI (14 + j)))] [] := by
            intro fuel
            induction fuel with
            | zero => intro th j _ _ hm; exact absurd hm (Nat.not_lt_zero _)
            | succ fuel ih =>
              intro th j h3 h4 hm83
              have ih83 := ih
              clear ih
              refine fk_iload 4 d_Md_same_83 rfl ?_
              refine fk_bipush (v := nI 14) d_Md_same_85 (by decide +kernel) ?_
              refine fk_aload_n 0 d_Md_same_87 rfl ?_
              refine fk_get 0 3 rfl rfl fh_Md (Nat.le_of_ble_eq_true rfl) fw_510 rfl d_Md_same_88 ?_
              refine fk_iconst (v := nI 1) d_Md_same_91 (by decide +kernel) ?_
              refine fk_ld_ai (i := 1) 1 rfl (by omega) (by decide) d_Md_same_92 ?_
              refine fk_iadd (a := 14) (b := (mc 1)) d_Md_same_93 ?_
              refine fk_icmp_ge (a := (14 + j)) (b := (14 + (mc 1))) (by omega) (by omega) d_Md_same_94 rfl (fun h94t => ?_) (fun h94f => ?_)
              · have e9 : th = (fun z9 => fs_any (fun z8 => decide (mi (14 + z8) = mi z9) && decide (mu (14 + z8) = mu z9)) (mc 1)) k := by rw [h4, show j = mc 1 by omega]
                have L158 : ∀ (a2 : Bool), (a2 = (a1 && th)) → fk_V E (prog_8_method_37_code, fy_Md_same.cls, 5, fk_rm 1 0 0) K (0, 0) [(b0, .inr (6, [.int (nI mt), .ref b1, .ref b2, .ref b3, .ref b4, .ref b5, .ref b6, .ref b7, .ref b8, .ref b9, .int (nI mf), .ref b10, .ref b11, .ref b12, .int (nI my), .int (nI (Bool.toNat mw)), .ref b13, .ref b14, .ref b15])), fk_ai E b3 2 mc, fk_ai E b4 28 mi, fk_ai E b5 28 mu, fk_ai E b6 2 mfi, fk_ai E b7 2 mla, fk_ai E b8 2 mac] 158 [(0, .ref b0), (1, .int (nI (Bool.toNat a1))), (2, .int (nI k)), (3, .int (nI (Bool.toNat th))), (4, .int (nI (14 + j)))] [.int (nI (Bool.toNat a2))] := by
                  intro a2 j2
                  refine fk_istore_n (lv' := [(0, .ref b0), (1, .int (nI (Bool.toNat a2))), (2, .int (nI k)), (3, .int (nI (Bool.toNat th))), (4, .int (nI (14 + j)))]) d_Md_same_158 rfl (Nat.le_of_ble_eq_true rfl) [1, 0, 2, 3, 4] rfl ?_
                  refine fk_iinc (j := 2) (lv' := [(0, .ref b0), (1, .int (nI (Bool.toNat a2))), (2, .int (nI (k + 1))), (3, .int (nI (Bool.toNat th))), (4, .int (nI (14 + j)))]) (k + 1) d_Md_same_159 rfl (nI_1 k) (Nat.le_of_ble_eq_true rfl) [1, 2, 0, 3, 4] rfl ?_
                  refine fk_goto d_Md_same_162 rfl ?_
                  refine fk_lv (lv' := [(0, .ref b0), (1, .int (nI (Bool.toNat a2))), (2, .int (nI (k + 1)))]) [0, 1, 2] rfl ?_
                  refine ih67 _ _ ?_ ?_ ?_
                  · first | omega | assumption | exact Nat.zero_le _
                  · rw [j2, h2, e9, Bool.and_assoc]
                    rfl
                  · omega
                refine fk_iload_n 1 d_Md_same_145 rfl ?_
                refine fk_if_eqB (b := a1) d_Md_same_146 rfl (fun h146t => ?_) (fun h146f => ?_)
                · refine fk_iconst (v := nI 0) d_Md_same_157 (by decide +kernel) ?_
                  refine L158 false ?_
                  · first | rw [h146t, Bool.false_and] | rw [h146f, h150t, Bool.and_false] | rw [h146f, h150f, Bool.and_self]
                · refine fk_iload_n 3 d_Md_same_149 rfl ?_
                  refine fk_if_eqB (b := th) d_Md_same_150 rfl (fun h150t => ?_) (fun h150f => ?_)
                  · refine fk_iconst (v := nI 0) d_Md_same_157 (by decide +kernel) ?_
                    refine L158 false ?_
                    · first | rw [h146t, Bool.false_and] | rw [h146f, h150t, Bool.and_false] | rw [h146f, h150f, Bool.and_self]
                  · refine fk_iconst (v := nI 1) d_Md_same_153 (by decide +kernel) ?_
                    refine fk_goto d_Md_same_154 rfl ?_
                    refine L158 true ?_
                    · first | rw [h146t, Bool.false_and] | rw [h146f, h150t, Bool.and_false] | rw [h146f, h150f, Bool.and_self]
              · have g4 := hN.1 (14 + j) (by omega)
                have L138 : ∀ (t2 : Bool), (t2 = (th || (fun z8 => decide (mi (14 + z8) = mi k) && decide (mu (14 + z8) = mu k)) j)) → fk_V E (prog_8_method_37_code, fy_Md_same.cls, 5, fk_rm 1 0 0) K (0, 0) [(b0, .inr (6, [.int (nI mt), .ref b1, .ref b2, .ref b3, .ref b4, .ref b5, .ref b6, .ref b7, .ref b8, .ref b9, .int (nI mf), .ref b10, .ref b11, .ref b12, .int (nI my), .int (nI (Bool.toNat mw)), .ref b13, .ref b14, .ref b15])), fk_ai E b3 2 mc, fk_ai E b4 28 mi, fk_ai E b5 28 mu, fk_ai E b6 2 mfi, fk_ai E b7 2 mla, fk_ai E b8 2 mac] 138 [(0, .ref b0), (1, .int (nI (Bool.toNat a1))), (2, .int (nI k)), (3, .int (nI (Bool.toNat th))), (4, .int (nI (14 + j)))] [.int (nI (Bool.toNat t2))] := by
                  intro t2 j1
                  refine fk_istore_n (lv' := [(0, .ref b0), (1, .int (nI (Bool.toNat a1))), (2, .int (nI k)), (3, .int (nI (Bool.toNat t2))), (4, .int (nI (14 + j)))]) d_Md_same_138 rfl (Nat.le_of_ble_eq_true rfl) [1, 2, 3, 0, 4] rfl ?_
                  refine fk_iinc (j := 4) (lv' := [(0, .ref b0), (1, .int (nI (Bool.toNat a1))), (2, .int (nI k)), (3, .int (nI (Bool.toNat t2))), (4, .int (nI ((14 + j) + 1)))]) ((14 + j) + 1) d_Md_same_139 rfl (nI_1 (14 + j)) (Nat.le_of_ble_eq_true rfl) [1, 2, 3, 4, 0] rfl ?_
                  refine fk_goto d_Md_same_142 rfl ?_
                  refine ih83 _ (j + 1) ?_ ?_ ?_
                  · first | omega | assumption | exact Nat.zero_le _
                  · rw [j1, h4]
                    rfl
                  · omega
                refine fk_iload_n 3 d_Md_same_97 rfl ?_
                refine fk_if_neB (b := th) d_Md_same_98 rfl (fun h98t => ?_) (fun h98f => ?_)
                · refine fk_iconst (v := nI 1) d_Md_same_133 (by decide +kernel) ?_
                  refine fk_goto d_Md_same_134 rfl ?_
                  refine L138 true ?_
                  · show _ = (th || (decide _ && decide _))
                    first | rw [h98t, Bool.true_or] | rw [h98f, decide_eq_true h114f, decide_eq_true h130f, Bool.and_self, Bool.or_true] | rw [h98f, decide_eq_false h114t, Bool.false_and, Bool.or_self] | rw [h98f, decide_eq_false h130t, Bool.and_false, Bool.or_self]
                · refine fk_aload_n 0 d_Md_same_101 rfl ?_
                  refine fk_get 0 4 rfl rfl fh_Md (Nat.le_of_ble_eq_true rfl) fw_511 rfl d_Md_same_102 ?_
                  refine fk_iload 4 d_Md_same_105 rfl ?_
                  refine fk_ld_ai (i := (14 + j)) 2 rfl (by omega) (by decide) d_Md_same_107 ?_
                  refine fk_aload_n 0 d_Md_same_108 rfl ?_
                  refine fk_get 0 4 rfl rfl fh_Md (Nat.le_of_ble_eq_true rfl) fw_511 rfl d_Md_same_109 ?_
                  refine fk_iload_n 2 d_Md_same_112 rfl ?_
                  refine fk_ld_ai (i := k) 2 rfl (by omega) (by decide) d_Md_same_113 ?_
                  refine fk_icmp_ne (a := (mi (14 + j))) (b := (mi k)) (by omega) (by omega) d_Md_same_114 rfl (fun h114t => ?_) (fun h114f => ?_)
                  · refine fk_iconst (v := nI 0) d_Md_same_137 (by decide +kernel) ?_
                    refine L138 false ?_
                    · show _ = (th || (decide _ && decide _))
                      first | rw [h98t, Bool.true_or] | rw [h98f, decide_eq_true h114f, decide_eq_true h130f, Bool.and_self, Bool.or_true] | rw [h98f, decide_eq_false h114t, Bool.false_and, Bool.or_self] | rw [h98f, decide_eq_false h130t, Bool.and_false, Bool.or_self]
                  · refine fk_aload_n 0 d_Md_same_117 rfl ?_
                    refine fk_get 0 5 rfl rfl fh_Md (Nat.le_of_ble_eq_true rfl) fw_512 rfl d_Md_same_118 ?_
                    refine fk_iload 4 d_Md_same_121 rfl ?_
                    refine fk_ld_ai (i := (14 + j)) 3 rfl (by omega) (by decide) d_Md_same_123 ?_
                    refine fk_aload_n 0 d_Md_same_124 rfl ?_
                    refine fk_get 0 5 rfl rfl fh_Md (Nat.le_of_ble_eq_true rfl) fw_512 rfl d_Md_same_125 ?_
                    refine fk_iload_n 2 d_Md_same_128 rfl ?_
                    refine fk_ld_ai (i := k) 3 rfl (by omega) (by decide) d_Md_same_129 ?_
                    refine fk_icmp_ne (a := (mu (14 + j))) (b := (mu k)) (by omega) (by omega) d_Md_same_130 rfl (fun h130t => ?_) (fun h130f => ?_)
                    · refine fk_iconst (v := nI 0) d_Md_same_137 (by decide +kernel) ?_
                      refine L138 false ?_
                      · show _ = (th || (decide _ && decide _))
                        first | rw [h98t, Bool.true_or] | rw [h98f, decide_eq_true h114f, decide_eq_true h130f, Bool.and_self, Bool.or_true] | rw [h98f, decide_eq_false h114t, Bool.false_and, Bool.or_self] | rw [h98f, decide_eq_false h130t, Bool.and_false, Bool.or_self]
                    · refine fk_iconst (v := nI 1) d_Md_same_133 (by decide +kernel) ?_
                      refine fk_goto d_Md_same_134 rfl ?_
                      refine L138 true ?_
                      · show _ = (th || (decide _ && decide _))
                        first | rw [h98t, Bool.true_or] | rw [h98f, decide_eq_true h114f, decide_eq_true h130f, Bool.and_self, Bool.or_true] | rw [h98f, decide_eq_false h114t, Bool.false_and, Bool.or_self] | rw [h98f, decide_eq_false h130t, Bool.and_false, Bool.or_self]
          refine L83 _ false 0 ?_ ?_ (Nat.lt_succ_self _)
          · first | omega | assumption | exact Nat.zero_le _
          · rfl
    refine L67 _ _ _ ?_ ?_ (Nat.lt_succ_self _)
    · first | omega | assumption | exact Nat.zero_le _
    · rw [j0]
      exact (Bool.and_true _).symm
  refine fk_aload_n 0 d_Md_same_0 rfl ?_
  refine fk_get 0 3 rfl rfl fh_Md (Nat.le_of_ble_eq_true rfl) fw_510 rfl d_Md_same_1 ?_
  refine fk_iconst (v := nI 0) d_Md_same_4 (by decide +kernel) ?_
  refine fk_ld_ai (i := 0) 1 rfl (by omega) (by decide) d_Md_same_5 ?_
  refine fk_aload_n 0 d_Md_same_6 rfl ?_
  refine fk_get 0 3 rfl rfl fh_Md (Nat.le_of_ble_eq_true rfl) fw_510 rfl d_Md_same_7 ?_
  refine fk_iconst (v := nI 1) d_Md_same_10 (by decide +kernel) ?_
  refine fk_ld_ai (i := 1) 1 rfl (by omega) (by decide) d_Md_same_11 ?_
  refine fk_icmp_ne (a := (mc 0)) (b := (mc 1)) (by omega) (by omega) d_Md_same_12 rfl (fun h12t => ?_) (fun h12f => ?_)
  · refine fk_iconst (v := nI 0) d_Md_same_63 (by decide +kernel) ?_
    refine L64 false ?_
    · first | exact (decide_eq_true ⟨h56f, h27f, h42f, h12f⟩).symm | exact (decide_eq_false (fun w => h56t w.1)).symm | exact (decide_eq_false (fun w => h42t w.2.2.1)).symm | exact (decide_eq_false (fun w => h27t w.2.1)).symm | exact (decide_eq_false (fun w => h12t w.2.2.2)).symm
  · refine fk_aload_n 0 d_Md_same_15 rfl ?_
    refine fk_get 0 6 rfl rfl fh_Md (Nat.le_of_ble_eq_true rfl) fw_513 rfl d_Md_same_16 ?_
    refine fk_iconst (v := nI 0) d_Md_same_19 (by decide +kernel) ?_
    refine fk_ld_ai (i := 0) 4 rfl (by omega) (by decide) d_Md_same_20 ?_
    refine fk_aload_n 0 d_Md_same_21 rfl ?_
    refine fk_get 0 6 rfl rfl fh_Md (Nat.le_of_ble_eq_true rfl) fw_513 rfl d_Md_same_22 ?_
    refine fk_iconst (v := nI 1) d_Md_same_25 (by decide +kernel) ?_
    refine fk_ld_ai (i := 1) 4 rfl (by omega) (by decide) d_Md_same_26 ?_
    refine fk_icmp_ne (a := (mfi 0)) (b := (mfi 1)) (by omega) (by omega) d_Md_same_27 rfl (fun h27t => ?_) (fun h27f => ?_)
    · refine fk_iconst (v := nI 0) d_Md_same_63 (by decide +kernel) ?_
      refine L64 false ?_
      · first | exact (decide_eq_true ⟨h56f, h27f, h42f, h12f⟩).symm | exact (decide_eq_false (fun w => h56t w.1)).symm | exact (decide_eq_false (fun w => h42t w.2.2.1)).symm | exact (decide_eq_false (fun w => h27t w.2.1)).symm | exact (decide_eq_false (fun w => h12t w.2.2.2)).symm
    · refine fk_aload_n 0 d_Md_same_30 rfl ?_
      refine fk_get 0 7 rfl rfl fh_Md (Nat.le_of_ble_eq_true rfl) fw_514 rfl d_Md_same_31 ?_
      refine fk_iconst (v := nI 0) d_Md_same_34 (by decide +kernel) ?_
      refine fk_ld_ai (i := 0) 5 rfl (by omega) (by decide) d_Md_same_35 ?_
      refine fk_aload_n 0 d_Md_same_36 rfl ?_
      refine fk_get 0 7 rfl rfl fh_Md (Nat.le_of_ble_eq_true rfl) fw_514 rfl d_Md_same_37 ?_
      refine fk_iconst (v := nI 1) d_Md_same_40 (by decide +kernel) ?_
      refine fk_ld_ai (i := 1) 5 rfl (by omega) (by decide) d_Md_same_41 ?_
      refine fk_icmp_ne (a := (mla 0)) (b := (mla 1)) (by omega) (by omega) d_Md_same_42 rfl (fun h42t => ?_) (fun h42f => ?_)
      · refine fk_iconst (v := nI 0) d_Md_same_63 (by decide +kernel) ?_
        refine L64 false ?_
        · first | exact (decide_eq_true ⟨h56f, h27f, h42f, h12f⟩).symm | exact (decide_eq_false (fun w => h56t w.1)).symm | exact (decide_eq_false (fun w => h42t w.2.2.1)).symm | exact (decide_eq_false (fun w => h27t w.2.1)).symm | exact (decide_eq_false (fun w => h12t w.2.2.2)).symm
      · refine fk_aload_n 0 d_Md_same_45 rfl ?_
        refine fk_iconst (v := nI 0) d_Md_same_46 (by decide +kernel) ?_
        refine fk_callV (q0 := 0) (As := [.int (nI 0)]) (rest := []) (is := [0, 1, 2, 3, 4, 5, 6]) (ir := []) (ip := [0, 1, 2, 3, 4, 5, 6]) (wc := [(b0, .inr (6, [.int (nI mt), .ref b1, .ref b2, .ref b3, .ref b4, .ref b5, .ref b6, .ref b7, .ref b8, .ref b9, .int (nI mf), .ref b10, .ref b11, .ref b12, .int (nI my), .int (nI (Bool.toNat mw)), .ref b13, .ref b14, .ref b15])), fk_ai E b3 2 mc, fk_ai E b4 28 mi, fk_ai E b5 28 mu, fk_ai E b6 2 mfi, fk_ai E b7 2 mla, fk_ai E b8 2 mac]) (wr := []) (w2 := fun _ => [(b0, .inr (6, [.int (nI mt), .ref b1, .ref b2, .ref b3, .ref b4, .ref b5, .ref b6, .ref b7, .ref b8, .ref b9, .int (nI mf), .ref b10, .ref b11, .ref b12, .int (nI my), .int (nI (Bool.toNat mw)), .ref b13, .ref b14, .ref b15])), fk_ai E b3 2 mc, fk_ai E b4 28 mi, fk_ai E b5 28 mu, fk_ai E b6 2 mfi, fk_ai E b7 2 mla, fk_ai E b8 2 mac]) (cD_activities E b0 b1 b2 b3 b4 b5 b6 b7 b8 b9 b10 b11 b12 b13 b14 b15 mt mf my mw mc mi mu mfi mla mac 0 (by first | omega | assumption) (by first | omega | assumption)) d_Md_same_47 fz_Md_activities fw_650 rfl rfl fw_652 fw_p21 ⟨Nat.le_of_ble_eq_true rfl, Nat.le_of_ble_eq_true rfl⟩ rfl (Nat.le_of_ble_eq_true rfl) ⟨Nat.zero_le _, Nat.zero_le _⟩ ⟨rfl, rfl, rfl, rfl, by decide, fun _ => rfl, rfl⟩ (fun u hu47 => ?_)
        show fk_V E _ K (0, 0) [(b0, .inr (6, [.int (nI mt), .ref b1, .ref b2, .ref b3, .ref b4, .ref b5, .ref b6, .ref b7, .ref b8, .ref b9, .int (nI mf), .ref b10, .ref b11, .ref b12, .int (nI my), .int (nI (Bool.toNat mw)), .ref b13, .ref b14, .ref b15])), fk_ai E b3 2 mc, fk_ai E b4 28 mi, fk_ai E b5 28 mu, fk_ai E b6 2 mfi, fk_ai E b7 2 mla, fk_ai E b8 2 mac] 50 [(0, .ref b0)] [.int (nI (fr_me mc mi mu mfi mla mac 0))]
        refine fk_aload_n 0 d_Md_same_50 rfl ?_
        refine fk_get 0 8 rfl rfl fh_Md (Nat.le_of_ble_eq_true rfl) fw_515 rfl d_Md_same_51 ?_
        refine fk_iconst (v := nI 1) d_Md_same_54 (by decide +kernel) ?_
        refine fk_ld_ai (i := 1) 6 rfl (by omega) (by decide) d_Md_same_55 ?_
        refine fk_icmp_ne (a := (fr_me mc mi mu mfi mla mac 0)) (b := (mac 1)) (by omega) (by omega) d_Md_same_56 rfl (fun h56t => ?_) (fun h56f => ?_)
        · refine fk_iconst (v := nI 0) d_Md_same_63 (by decide +kernel) ?_
          refine L64 false ?_
          · first | exact (decide_eq_true ⟨h56f, h27f, h42f, h12f⟩).symm | exact (decide_eq_false (fun w => h56t w.1)).symm | exact (decide_eq_false (fun w => h42t w.2.2.1)).symm | exact (decide_eq_false (fun w => h27t w.2.1)).symm | exact (decide_eq_false (fun w => h12t w.2.2.2)).symm
        · refine fk_iconst (v := nI 1) d_Md_same_59 (by decide +kernel) ?_
          refine fk_goto d_Md_same_60 rfl ?_
          refine L64 true ?_
          · first | exact (decide_eq_true ⟨h56f, h27f, h42f, h12f⟩).symm | exact (decide_eq_false (fun w => h56t w.1)).symm | exact (decide_eq_false (fun w => h42t w.2.2.1)).symm | exact (decide_eq_false (fun w => h27t w.2.1)).symm | exact (decide_eq_false (fun w => h12t w.2.2.2)).symm
theorem fr_r1 (x y : Bool) : decide (x.toNat + 2 * y.toNat = 1) = (x && !y) := by cases x <;> cases y <;> rfl
theorem fr_r0 (x y : Bool) : decide (x.toNat + 2 * y.toNat = 0) = (!x && !y) := by cases x <;> cases y <;> rfl
theorem fr_ok {fl : Nat → Nat → Bool} {l r a b v : Nat} (hv : v = Bool.toNat (fl a b) + 2 * Bool.toNat (fl b a)) : fg_ok fl l r a b = ((!(l.testBit a && r.testBit b) || decide (v = 1)) && (!((l.testBit a && l.testBit b) || (r.testBit a && r.testBit b)) || decide (v = 0))) := by
  unfold fg_ok fg_caus fg_str
  rw [hv, fr_r1, fr_r0]
theorem fr_C_f {fl : Nat → Nat → Bool} {l r a b : Nat} (ha : a < 7) (hb : b < 7) (h : fg_ok fl l r a b = false) : fg_C fl l r = false := by
  unfold fg_C
  rw [fs_all_f (f := fun a => fs_all (fun b => fg_ok fl l r a b) 7) (j := a) ha (fs_all_f (f := fun b => fg_ok fl l r a b) (j := b) hb h), Bool.and_false]
theorem fr_v4 (x y : Bool) : x.toNat + 2 * y.toNat < 4 := by cases x <;> cases y <;> decide
theorem d_Md_causal_0 : decode prog_8_method_10_code 0 = .ok (.iconst 0, 1) := by decide +kernel
theorem d_Md_causal_1 : decode prog_8_method_10_code 1 = .ok (.istore_n 3, 1) := by decide +kernel
theorem d_Md_causal_2 : decode prog_8_method_10_code 2 = .ok (.iload_n 3, 1) := by decide +kernel
theorem d_Md_causal_3 : decode prog_8_method_10_code 3 = .ok (.bipush 7, 2) := by decide +kernel
theorem d_Md_causal_5 : decode prog_8_method_10_code 5 = .ok (.if_icmp .ge 115, 3) := by decide +kernel
theorem d_Md_causal_8 : decode prog_8_method_10_code 8 = .ok (.iconst 0, 1) := by decide +kernel
theorem d_Md_causal_9 : decode prog_8_method_10_code 9 = .ok (.istore 4, 2) := by decide +kernel
theorem d_Md_causal_11 : decode prog_8_method_10_code 11 = .ok (.iload 4, 2) := by decide +kernel
theorem d_Md_causal_13 : decode prog_8_method_10_code 13 = .ok (.bipush 7, 2) := by decide +kernel
theorem d_Md_causal_15 : decode prog_8_method_10_code 15 = .ok (.if_icmp .ge 99, 3) := by decide +kernel
theorem d_Md_causal_18 : decode prog_8_method_10_code 18 = .ok (.aload_n 0, 1) := by decide +kernel
theorem d_Md_causal_19 : decode prog_8_method_10_code 19 = .ok (.getfield 34, 3) := by decide +kernel
theorem d_Md_causal_22 : decode prog_8_method_10_code 22 = .ok (.bipush 7, 2) := by decide +kernel
theorem d_Md_causal_24 : decode prog_8_method_10_code 24 = .ok (.iload_n 3, 1) := by decide +kernel
theorem d_Md_causal_25 : decode prog_8_method_10_code 25 = .ok (.imul, 1) := by decide +kernel
theorem d_Md_causal_26 : decode prog_8_method_10_code 26 = .ok (.iload 4, 2) := by decide +kernel
theorem d_Md_causal_28 : decode prog_8_method_10_code 28 = .ok (.iadd, 1) := by decide +kernel
theorem d_Md_causal_29 : decode prog_8_method_10_code 29 = .ok (.iaload, 1) := by decide +kernel
theorem d_Md_causal_30 : decode prog_8_method_10_code 30 = .ok (.istore 5, 2) := by decide +kernel
theorem d_Md_causal_32 : decode prog_8_method_10_code 32 = .ok (.iload_n 1, 1) := by decide +kernel
theorem d_Md_causal_33 : decode prog_8_method_10_code 33 = .ok (.iload_n 3, 1) := by decide +kernel
theorem d_Md_causal_34 : decode prog_8_method_10_code 34 = .ok (.invokestatic 66, 3) := by decide +kernel
theorem d_Md_causal_37 : decode prog_8_method_10_code 37 = .ok (.ifCond .eq 12, 3) := by decide +kernel
theorem d_Md_causal_40 : decode prog_8_method_10_code 40 = .ok (.iload_n 1, 1) := by decide +kernel
theorem d_Md_causal_41 : decode prog_8_method_10_code 41 = .ok (.iload 4, 2) := by decide +kernel
theorem d_Md_causal_43 : decode prog_8_method_10_code 43 = .ok (.invokestatic 66, 3) := by decide +kernel
theorem d_Md_causal_46 : decode prog_8_method_10_code 46 = .ok (.ifCond .ne 20, 3) := by decide +kernel
theorem d_Md_causal_49 : decode prog_8_method_10_code 49 = .ok (.iload_n 2, 1) := by decide +kernel
theorem d_Md_causal_50 : decode prog_8_method_10_code 50 = .ok (.iload_n 3, 1) := by decide +kernel
theorem d_Md_causal_51 : decode prog_8_method_10_code 51 = .ok (.invokestatic 66, 3) := by decide +kernel
theorem d_Md_causal_54 : decode prog_8_method_10_code 54 = .ok (.ifCond .eq 16, 3) := by decide +kernel
theorem d_Md_causal_57 : decode prog_8_method_10_code 57 = .ok (.iload_n 2, 1) := by decide +kernel
theorem d_Md_causal_58 : decode prog_8_method_10_code 58 = .ok (.iload 4, 2) := by decide +kernel
theorem d_Md_causal_60 : decode prog_8_method_10_code 60 = .ok (.invokestatic 66, 3) := by decide +kernel
theorem d_Md_causal_63 : decode prog_8_method_10_code 63 = .ok (.ifCond .eq 7, 3) := by decide +kernel
theorem d_Md_causal_66 : decode prog_8_method_10_code 66 = .ok (.iconst 1, 1) := by decide +kernel
theorem d_Md_causal_67 : decode prog_8_method_10_code 67 = .ok (.goto 4, 3) := by decide +kernel
theorem d_Md_causal_70 : decode prog_8_method_10_code 70 = .ok (.iconst 0, 1) := by decide +kernel
theorem d_Md_causal_71 : decode prog_8_method_10_code 71 = .ok (.istore 6, 2) := by decide +kernel
theorem d_Md_causal_73 : decode prog_8_method_10_code 73 = .ok (.iload_n 1, 1) := by decide +kernel
theorem d_Md_causal_74 : decode prog_8_method_10_code 74 = .ok (.iload_n 3, 1) := by decide +kernel
theorem d_Md_causal_75 : decode prog_8_method_10_code 75 = .ok (.invokestatic 66, 3) := by decide +kernel
theorem d_Md_causal_78 : decode prog_8_method_10_code 78 = .ok (.ifCond .eq 18, 3) := by decide +kernel
theorem d_Md_causal_81 : decode prog_8_method_10_code 81 = .ok (.iload_n 2, 1) := by decide +kernel
theorem d_Md_causal_82 : decode prog_8_method_10_code 82 = .ok (.iload 4, 2) := by decide +kernel
theorem d_Md_causal_84 : decode prog_8_method_10_code 84 = .ok (.invokestatic 66, 3) := by decide +kernel
theorem d_Md_causal_87 : decode prog_8_method_10_code 87 = .ok (.ifCond .eq 9, 3) := by decide +kernel
theorem d_Md_causal_90 : decode prog_8_method_10_code 90 = .ok (.iload 5, 2) := by decide +kernel
theorem d_Md_causal_92 : decode prog_8_method_10_code 92 = .ok (.iconst 1, 1) := by decide +kernel
theorem d_Md_causal_93 : decode prog_8_method_10_code 93 = .ok (.if_icmp .ne 13, 3) := by decide +kernel
theorem d_Md_causal_96 : decode prog_8_method_10_code 96 = .ok (.iload 6, 2) := by decide +kernel
theorem d_Md_causal_98 : decode prog_8_method_10_code 98 = .ok (.ifCond .eq 10, 3) := by decide +kernel
theorem d_Md_causal_101 : decode prog_8_method_10_code 101 = .ok (.iload 5, 2) := by decide +kernel
theorem d_Md_causal_103 : decode prog_8_method_10_code 103 = .ok (.ifCond .eq 5, 3) := by decide +kernel
theorem d_Md_causal_106 : decode prog_8_method_10_code 106 = .ok (.iconst 0, 1) := by decide +kernel
theorem d_Md_causal_107 : decode prog_8_method_10_code 107 = .ok (.ireturn, 1) := by decide +kernel
theorem d_Md_causal_108 : decode prog_8_method_10_code 108 = .ok (.iinc 4 1, 3) := by decide +kernel
theorem d_Md_causal_111 : decode prog_8_method_10_code 111 = .ok (.goto (-100), 3) := by decide +kernel
theorem d_Md_causal_114 : decode prog_8_method_10_code 114 = .ok (.iinc 3 1, 3) := by decide +kernel
theorem d_Md_causal_117 : decode prog_8_method_10_code 117 = .ok (.goto (-115), 3) := by decide +kernel
theorem d_Md_causal_120 : decode prog_8_method_10_code 120 = .ok (.iload_n 1, 1) := by decide +kernel
theorem d_Md_causal_121 : decode prog_8_method_10_code 121 = .ok (.ifCond .le 11, 3) := by decide +kernel
theorem d_Md_causal_124 : decode prog_8_method_10_code 124 = .ok (.iload_n 2, 1) := by decide +kernel
theorem d_Md_causal_125 : decode prog_8_method_10_code 125 = .ok (.ifCond .le 7, 3) := by decide +kernel
theorem d_Md_causal_128 : decode prog_8_method_10_code 128 = .ok (.iconst 1, 1) := by decide +kernel
theorem d_Md_causal_129 : decode prog_8_method_10_code 129 = .ok (.goto 4, 3) := by decide +kernel
theorem d_Md_causal_132 : decode prog_8_method_10_code 132 = .ok (.iconst 0, 1) := by decide +kernel
theorem d_Md_causal_133 : decode prog_8_method_10_code 133 = .ok (.ireturn, 1) := by decide +kernel
set_option maxRecDepth 20000 in
set_option maxHeartbeats 4000000 in
theorem cD_causal (E : fk_E) (b0 : Nat) (b1 : Nat) (b2 : Nat) (b3 : Nat) (b4 : Nat) (b5 : Nat) (b6 : Nat) (b7 : Nat) (b8 : Nat) (b9 : Nat) (b10 : Nat) (b11 : Nat) (b12 : Nat) (b13 : Nat) (b14 : Nat) (b15 : Nat) (mt : Nat) (mf : Nat) (my : Nat) (mw : Bool) (mtb : Nat → Nat) (fl : Nat → Nat → Bool) (l : Nat) (r : Nat) (ht : ∀ a, a < 7 → ∀ b, b < 7 → mtb (7 * a + b) = Bool.toNat (fl a b) + 2 * Bool.toNat (fl b a)) (hl : l < 128) (hr : r < 128) : fk_C E fy_Md_causal prog_8_method_10_code 7 (some .boolean) 1 0 0 [.ref b0, .int (nI l), .int (nI r)] [(b0, .inr (6, [.int (nI mt), .ref b1, .ref b2, .ref b3, .ref b4, .ref b5, .ref b6, .ref b7, .ref b8, .ref b9, .int (nI mf), .ref b10, .ref b11, .ref b12, .int (nI my), .int (nI (Bool.toNat mw)), .ref b13, .ref b14, .ref b15])), fk_ai E b9 49 mtb] (S := Unit) (fun _ => some (.int (nI (Bool.toNat (fg_C fl l r))))) (fun _ => True) (fun _ => [(b0, .inr (6, [.int (nI mt), .ref b1, .ref b2, .ref b3, .ref b4, .ref b5, .ref b6, .ref b7, .ref b8, .ref b9, .int (nI mf), .ref b10, .ref b11, .ref b12, .int (nI my), .int (nI (Bool.toNat mw)), .ref b13, .ref b14, .ref b15])), fk_ai E b9 49 mtb]) := by
  refine fk_enterZ (v := fun _ => fg_C fl l r) (by decide) (Nat.le_of_ble_eq_true rfl) (lv0 := [(0, .ref b0), (1, .int (nI l)), (2, .int (nI r))]) rfl ?_
  intro K hini hret
  refine fk_iconst (v := nI 0) d_Md_causal_0 (by decide +kernel) ?_
  refine fk_istore_n (lv' := [(0, .ref b0), (1, .int (nI l)), (2, .int (nI r)), (3, .int (nI 0))]) d_Md_causal_1 rfl (Nat.le_of_ble_eq_true rfl) [1, 2, 3, 0] rfl ?_
  have L2 : ∀ (fuel : Nat) (a : Nat), (a ≤ 7) → (∀ j, j < a → fs_all (fun z => fg_ok fl l r j z) 7 = true) → 7 - a < fuel → fk_V E (prog_8_method_10_code, fy_Md_causal.cls, 7, fk_rm 1 0 0) K (0, 0) [(b0, .inr (6, [.int (nI mt), .ref b1, .ref b2, .ref b3, .ref b4, .ref b5, .ref b6, .ref b7, .ref b8, .ref b9, .int (nI mf), .ref b10, .ref b11, .ref b12, .int (nI my), .int (nI (Bool.toNat mw)), .ref b13, .ref b14, .ref b15])), fk_ai E b9 49 mtb] 2 [(0, .ref b0), (1, .int (nI l)), (2, .int (nI r)), (3, .int (nI a))] [] := by
    intro fuel
    induction fuel with
    | zero => intro a _ _ hm; exact absurd hm (Nat.not_lt_zero _)
    | succ fuel ih =>
      intro a h1 h2 hm2
      have ih2 := ih
      clear ih
      refine fk_iload_n 3 d_Md_causal_2 rfl ?_
      refine fk_bipush (v := nI 7) d_Md_causal_3 (by decide +kernel) ?_
      refine fk_icmp_ge (a := a) (b := 7) (by omega) (by omega) d_Md_causal_5 rfl (fun h5t => ?_) (fun h5f => ?_)
      · refine fk_iload_n 1 d_Md_causal_120 rfl ?_
        refine fk_if_le (a := l) (by omega) d_Md_causal_121 rfl (fun h121t => ?_) (fun h121f => ?_)
        · refine fk_iconst (v := nI 0) d_Md_causal_132 (by decide +kernel) ?_
          refine fk_top (fn_rf (b := fg_C fl l r) (by unfold fg_C; rw [fs_all_iff.mpr (fun j hj => h2 j (by omega))]; first | (rw [decide_eq_false (show ¬ 0 < l by omega)]; rfl) | (rw [decide_eq_false (show ¬ 0 < r by omega)]; simp; done) | (rw [decide_eq_true h121f, decide_eq_true h125f]; rfl))) ?_
          exact hret (0, 0) _ 133 _ () d_Md_causal_133 (trivial) (rfl)
        · refine fk_iload_n 2 d_Md_causal_124 rfl ?_
          refine fk_if_le (a := r) (by omega) d_Md_causal_125 rfl (fun h125t => ?_) (fun h125f => ?_)
          · refine fk_iconst (v := nI 0) d_Md_causal_132 (by decide +kernel) ?_
            refine fk_top (fn_rf (b := fg_C fl l r) (by unfold fg_C; rw [fs_all_iff.mpr (fun j hj => h2 j (by omega))]; first | (rw [decide_eq_false (show ¬ 0 < l by omega)]; rfl) | (rw [decide_eq_false (show ¬ 0 < r by omega)]; simp; done) | (rw [decide_eq_true h121f, decide_eq_true h125f]; rfl))) ?_
            exact hret (0, 0) _ 133 _ () d_Md_causal_133 (trivial) (rfl)
          · refine fk_iconst (v := nI 1) d_Md_causal_128 (by decide +kernel) ?_
            refine fk_goto d_Md_causal_129 rfl ?_
            refine fk_top (fn_rt (b := fg_C fl l r) (by unfold fg_C; rw [fs_all_iff.mpr (fun j hj => h2 j (by omega))]; first | (rw [decide_eq_false (show ¬ 0 < l by omega)]; rfl) | (rw [decide_eq_false (show ¬ 0 < r by omega)]; simp; done) | (rw [decide_eq_true h121f, decide_eq_true h125f]; rfl))) ?_
            exact hret (0, 0) _ 133 _ () d_Md_causal_133 (trivial) (rfl)
      · refine fk_iconst (v := nI 0) d_Md_causal_8 (by decide +kernel) ?_
        refine fk_istore (lv' := [(0, .ref b0), (1, .int (nI l)), (2, .int (nI r)), (3, .int (nI a)), (4, .int (nI 0))]) d_Md_causal_9 (Nat.le_of_ble_eq_true rfl) [1, 2, 3, 4, 0] rfl ?_
        have L11 : ∀ (fuel : Nat) (b : Nat), (b ≤ 7) → (∀ j, j < b → fg_ok fl l r a j = true) → 7 - b < fuel → fk_V E (prog_8_method_10_code, fy_Md_causal.cls, 7, fk_rm 1 0 0) K (0, 0) [(b0, .inr (6, [.int (nI mt), .ref b1, .ref b2, .ref b3, .ref b4, .ref b5, .ref b6, .ref b7, .ref b8, .ref b9, .int (nI mf), .ref b10, .ref b11, .ref b12, .int (nI my), .int (nI (Bool.toNat mw)), .ref b13, .ref b14, .ref b15])), fk_ai E b9 49 mtb] 11 [(0, .ref b0), (1, .int (nI l)), (2, .int (nI r)), (3, .int (nI a)), (4, .int (nI b))] [] := by
          intro fuel
          induction fuel with
          | zero => intro b _ _ hm; exact absurd hm (Nat.not_lt_zero _)
          | succ fuel ih =>
            intro b h3 h4 hm11
            have ih11 := ih
            clear ih
            refine fk_iload 4 d_Md_causal_11 rfl ?_
            refine fk_bipush (v := nI 7) d_Md_causal_13 (by decide +kernel) ?_
            refine fk_icmp_ge (a := b) (b := 7) (by omega) (by omega) d_Md_causal_15 rfl (fun h15t => ?_) (fun h15f => ?_)
            · refine fk_iinc (j := 3) (lv' := [(0, .ref b0), (1, .int (nI l)), (2, .int (nI r)), (3, .int (nI (a + 1))), (4, .int (nI b))]) (a + 1) d_Md_causal_114 rfl (nI_1 a) (Nat.le_of_ble_eq_true rfl) [1, 2, 3, 0, 4] rfl ?_
              refine fk_goto d_Md_causal_117 rfl ?_
              refine fk_lv (lv' := [(0, .ref b0), (1, .int (nI l)), (2, .int (nI r)), (3, .int (nI (a + 1)))]) [0, 1, 2, 3] rfl ?_
              refine ih2 _ ?_ ?_ ?_
              · first | omega | assumption | exact Nat.zero_le _
              · exact fs_lt_t (f := fun j => fs_all (fun z => fg_ok fl l r j z) 7) h2 (fs_all_iff.mpr (fun z hz => h4 z (by omega)))
              · omega
            · have g1 := ht a (by omega) b h15f
              have g2 : mtb (7 * a + b) < 4 := by rw [g1]; exact fr_v4 _ _
              refine fk_aload_n 0 d_Md_causal_18 rfl ?_
              refine fk_get 0 9 rfl rfl fh_Md (Nat.le_of_ble_eq_true rfl) fw_516 rfl d_Md_causal_19 ?_
              refine fk_bipush (v := nI 7) d_Md_causal_22 (by decide +kernel) ?_
              refine fk_iload_n 3 d_Md_causal_24 rfl ?_
              refine fk_imul (a := 7) (b := a) d_Md_causal_25 ?_
              refine fk_iload 4 d_Md_causal_26 rfl ?_
              refine fk_iadd (a := (7 * a)) (b := b) d_Md_causal_28 ?_
              refine fk_ld_ai (i := ((7 * a) + b)) 1 rfl (by omega) (by decide) d_Md_causal_29 ?_
              refine fk_istore (lv' := [(0, .ref b0), (1, .int (nI l)), (2, .int (nI r)), (3, .int (nI a)), (4, .int (nI b)), (5, .int (nI (mtb ((7 * a) + b))))]) d_Md_causal_30 (Nat.le_of_ble_eq_true rfl) [1, 2, 3, 4, 5, 0] rfl ?_
              have L71 : ∀ (ap : Bool), (ap = ((Nat.testBit l a && Nat.testBit l b) || (Nat.testBit r a && Nat.testBit r b))) → fk_V E (prog_8_method_10_code, fy_Md_causal.cls, 7, fk_rm 1 0 0) K (0, 0) [(b0, .inr (6, [.int (nI mt), .ref b1, .ref b2, .ref b3, .ref b4, .ref b5, .ref b6, .ref b7, .ref b8, .ref b9, .int (nI mf), .ref b10, .ref b11, .ref b12, .int (nI my), .int (nI (Bool.toNat mw)), .ref b13, .ref b14, .ref b15])), fk_ai E b9 49 mtb] 71 [(0, .ref b0), (1, .int (nI l)), (2, .int (nI r)), (3, .int (nI a)), (4, .int (nI b)), (5, .int (nI (mtb ((7 * a) + b))))] [.int (nI (Bool.toNat ap))] := by
                intro ap j1
                refine fk_istore (lv' := [(0, .ref b0), (1, .int (nI l)), (2, .int (nI r)), (3, .int (nI a)), (4, .int (nI b)), (5, .int (nI (mtb ((7 * a) + b)))), (6, .int (nI (Bool.toNat ap)))]) d_Md_causal_71 (Nat.le_of_ble_eq_true rfl) [1, 2, 3, 4, 5, 6, 0] rfl ?_
                refine fk_iload_n 1 d_Md_causal_73 rfl ?_
                refine fk_iload_n 3 d_Md_causal_74 rfl ?_
                refine fk_callS (As := [.int (nI l), .int (nI a)]) (rest := []) (is := []) (ir := [0, 1]) (ip := [0, 1]) (wc := []) (wr := [(b0, .inr (6, [.int (nI mt), .ref b1, .ref b2, .ref b3, .ref b4, .ref b5, .ref b6, .ref b7, .ref b8, .ref b9, .int (nI mf), .ref b10, .ref b11, .ref b12, .int (nI my), .int (nI (Bool.toNat mw)), .ref b13, .ref b14, .ref b15])), fk_ai E b9 49 mtb]) (w2 := fun _ => [(b0, .inr (6, [.int (nI mt), .ref b1, .ref b2, .ref b3, .ref b4, .ref b5, .ref b6, .ref b7, .ref b8, .ref b9, .int (nI mf), .ref b10, .ref b11, .ref b12, .int (nI my), .int (nI (Bool.toNat mw)), .ref b13, .ref b14, .ref b15])), fk_ai E b9 49 mtb]) (cD_has E l a (by first | omega | assumption) (by first | omega | assumption)) d_Md_causal_75 fz_Md_has fw_604 fw_605 ⟨Nat.le_of_ble_eq_true rfl, Nat.le_of_ble_eq_true rfl⟩ rfl (Nat.le_of_ble_eq_true rfl) ⟨Nat.zero_le _, Nat.zero_le _⟩ ⟨rfl, rfl, rfl, rfl, by decide, fun _ => rfl, rfl⟩ (fun u hu75 => ?_)
                show fk_V E _ K (0, 0) [(b0, .inr (6, [.int (nI mt), .ref b1, .ref b2, .ref b3, .ref b4, .ref b5, .ref b6, .ref b7, .ref b8, .ref b9, .int (nI mf), .ref b10, .ref b11, .ref b12, .int (nI my), .int (nI (Bool.toNat mw)), .ref b13, .ref b14, .ref b15])), fk_ai E b9 49 mtb] 78 [(0, .ref b0), (1, .int (nI l)), (2, .int (nI r)), (3, .int (nI a)), (4, .int (nI b)), (5, .int (nI (mtb ((7 * a) + b)))), (6, .int (nI (Bool.toNat ap)))] [.int (nI (Bool.toNat (Nat.testBit l a)))]
                refine fk_if_eqB (b := (Nat.testBit l a)) d_Md_causal_78 rfl (fun h78t => ?_) (fun h78f => ?_)
                · refine fk_iload 6 d_Md_causal_96 rfl ?_
                  refine fk_if_eqB (b := ap) d_Md_causal_98 rfl (fun h98t => ?_) (fun h98f => ?_)
                  · refine fk_iinc (j := 4) (lv' := [(0, .ref b0), (1, .int (nI l)), (2, .int (nI r)), (3, .int (nI a)), (4, .int (nI (b + 1))), (5, .int (nI (mtb ((7 * a) + b)))), (6, .int (nI (Bool.toNat ap)))]) (b + 1) d_Md_causal_108 rfl (nI_1 b) (Nat.le_of_ble_eq_true rfl) [1, 2, 3, 4, 0, 5, 6] rfl ?_
                    refine fk_goto d_Md_causal_111 rfl ?_
                    refine fk_lv (lv' := [(0, .ref b0), (1, .int (nI l)), (2, .int (nI r)), (3, .int (nI a)), (4, .int (nI (b + 1)))]) [0, 1, 2, 3, 4] rfl ?_
                    refine ih11 _ ?_ ?_ ?_
                    · first | omega | assumption | exact Nat.zero_le _
                    · refine fs_lt_t (f := fun j => fg_ok fl l r a j) h4 ?_
                      rw [fr_ok g1, ← j1]
                      first | (rw [h78t, h98t]; rfl) | (rw [h78t, h98f, decide_eq_true h103t]; rfl) | (rw [h78f, h87t, h98t]; rfl) | (rw [h78f, h87t, h98f, decide_eq_true h103t]; rfl) | (rw [h78f, h87f, decide_eq_true h93f, h98t]; rfl) | (exact absurd h103t (by omega))
                    · omega
                  · refine fk_iload 5 d_Md_causal_101 rfl ?_
                    refine fk_if_eq (a := (mtb ((7 * a) + b))) (by omega) d_Md_causal_103 rfl (fun h103t => ?_) (fun h103f => ?_)
                    · refine fk_iinc (j := 4) (lv' := [(0, .ref b0), (1, .int (nI l)), (2, .int (nI r)), (3, .int (nI a)), (4, .int (nI (b + 1))), (5, .int (nI (mtb ((7 * a) + b)))), (6, .int (nI (Bool.toNat ap)))]) (b + 1) d_Md_causal_108 rfl (nI_1 b) (Nat.le_of_ble_eq_true rfl) [1, 2, 3, 4, 0, 5, 6] rfl ?_
                      refine fk_goto d_Md_causal_111 rfl ?_
                      refine fk_lv (lv' := [(0, .ref b0), (1, .int (nI l)), (2, .int (nI r)), (3, .int (nI a)), (4, .int (nI (b + 1)))]) [0, 1, 2, 3, 4] rfl ?_
                      refine ih11 _ ?_ ?_ ?_
                      · first | omega | assumption | exact Nat.zero_le _
                      · refine fs_lt_t (f := fun j => fg_ok fl l r a j) h4 ?_
                        rw [fr_ok g1, ← j1]
                        first | (rw [h78t, h98t]; rfl) | (rw [h78t, h98f, decide_eq_true h103t]; rfl) | (rw [h78f, h87t, h98t]; rfl) | (rw [h78f, h87t, h98f, decide_eq_true h103t]; rfl) | (rw [h78f, h87f, decide_eq_true h93f, h98t]; rfl) | (exact absurd h103t (by omega))
                      · omega
                    · refine fk_iconst (v := nI 0) d_Md_causal_106 (by decide +kernel) ?_
                      refine fk_top (fn_rf (b := fg_C fl l r) (fr_C_f (show a < 7 by omega) h15f (by rw [fr_ok g1, ← j1]; first | (rw [h78f, h87f, decide_eq_false h93t]; rfl) | (rw [h98f, decide_eq_false h103f]; simp)))) ?_
                      exact hret (0, 0) _ 107 _ () d_Md_causal_107 (trivial) (rfl)
                · refine fk_iload_n 2 d_Md_causal_81 rfl ?_
                  refine fk_iload 4 d_Md_causal_82 rfl ?_
                  refine fk_callS (As := [.int (nI r), .int (nI b)]) (rest := []) (is := []) (ir := [0, 1]) (ip := [0, 1]) (wc := []) (wr := [(b0, .inr (6, [.int (nI mt), .ref b1, .ref b2, .ref b3, .ref b4, .ref b5, .ref b6, .ref b7, .ref b8, .ref b9, .int (nI mf), .ref b10, .ref b11, .ref b12, .int (nI my), .int (nI (Bool.toNat mw)), .ref b13, .ref b14, .ref b15])), fk_ai E b9 49 mtb]) (w2 := fun _ => [(b0, .inr (6, [.int (nI mt), .ref b1, .ref b2, .ref b3, .ref b4, .ref b5, .ref b6, .ref b7, .ref b8, .ref b9, .int (nI mf), .ref b10, .ref b11, .ref b12, .int (nI my), .int (nI (Bool.toNat mw)), .ref b13, .ref b14, .ref b15])), fk_ai E b9 49 mtb]) (cD_has E r b (by first | omega | assumption) (by first | omega | assumption)) d_Md_causal_84 fz_Md_has fw_604 fw_605 ⟨Nat.le_of_ble_eq_true rfl, Nat.le_of_ble_eq_true rfl⟩ rfl (Nat.le_of_ble_eq_true rfl) ⟨Nat.zero_le _, Nat.zero_le _⟩ ⟨rfl, rfl, rfl, rfl, by decide, fun _ => rfl, rfl⟩ (fun u hu84 => ?_)
                  show fk_V E _ K (0, 0) [(b0, .inr (6, [.int (nI mt), .ref b1, .ref b2, .ref b3, .ref b4, .ref b5, .ref b6, .ref b7, .ref b8, .ref b9, .int (nI mf), .ref b10, .ref b11, .ref b12, .int (nI my), .int (nI (Bool.toNat mw)), .ref b13, .ref b14, .ref b15])), fk_ai E b9 49 mtb] 87 [(0, .ref b0), (1, .int (nI l)), (2, .int (nI r)), (3, .int (nI a)), (4, .int (nI b)), (5, .int (nI (mtb ((7 * a) + b)))), (6, .int (nI (Bool.toNat ap)))] [.int (nI (Bool.toNat (Nat.testBit r b)))]
                  refine fk_if_eqB (b := (Nat.testBit r b)) d_Md_causal_87 rfl (fun h87t => ?_) (fun h87f => ?_)
                  · refine fk_iload 6 d_Md_causal_96 rfl ?_
                    refine fk_if_eqB (b := ap) d_Md_causal_98 rfl (fun h98t => ?_) (fun h98f => ?_)
                    · refine fk_iinc (j := 4) (lv' := [(0, .ref b0), (1, .int (nI l)), (2, .int (nI r)), (3, .int (nI a)), (4, .int (nI (b + 1))), (5, .int (nI (mtb ((7 * a) + b)))), (6, .int (nI (Bool.toNat ap)))]) (b + 1) d_Md_causal_108 rfl (nI_1 b) (Nat.le_of_ble_eq_true rfl) [1, 2, 3, 4, 0, 5, 6] rfl ?_
                      refine fk_goto d_Md_causal_111 rfl ?_
                      refine fk_lv (lv' := [(0, .ref b0), (1, .int (nI l)), (2, .int (nI r)), (3, .int (nI a)), (4, .int (nI (b + 1)))]) [0, 1, 2, 3, 4] rfl ?_
                      refine ih11 _ ?_ ?_ ?_
                      · first | omega | assumption | exact Nat.zero_le _
                      · refine fs_lt_t (f := fun j => fg_ok fl l r a j) h4 ?_
                        rw [fr_ok g1, ← j1]
                        first | (rw [h78t, h98t]; rfl) | (rw [h78t, h98f, decide_eq_true h103t]; rfl) | (rw [h78f, h87t, h98t]; rfl) | (rw [h78f, h87t, h98f, decide_eq_true h103t]; rfl) | (rw [h78f, h87f, decide_eq_true h93f, h98t]; rfl) | (exact absurd h103t (by omega))
                      · omega
                    · refine fk_iload 5 d_Md_causal_101 rfl ?_
                      refine fk_if_eq (a := (mtb ((7 * a) + b))) (by omega) d_Md_causal_103 rfl (fun h103t => ?_) (fun h103f => ?_)
                      · refine fk_iinc (j := 4) (lv' := [(0, .ref b0), (1, .int (nI l)), (2, .int (nI r)), (3, .int (nI a)), (4, .int (nI (b + 1))), (5, .int (nI (mtb ((7 * a) + b)))), (6, .int (nI (Bool.toNat ap)))]) (b + 1) d_Md_causal_108 rfl (nI_1 b) (Nat.le_of_ble_eq_true rfl) [1, 2, 3, 4, 0, 5, 6] rfl ?_
                        refine fk_goto d_Md_causal_111 rfl ?_
                        refine fk_lv (lv' := [(0, .ref b0), (1, .int (nI l)), (2, .int (nI r)), (3, .int (nI a)), (4, .int (nI (b + 1)))]) [0, 1, 2, 3, 4] rfl ?_
                        refine ih11 _ ?_ ?_ ?_
                        · first | omega | assumption | exact Nat.zero_le _
                        · refine fs_lt_t (f := fun j => fg_ok fl l r a j) h4 ?_
                          rw [fr_ok g1, ← j1]
                          first | (rw [h78t, h98t]; rfl) | (rw [h78t, h98f, decide_eq_true h103t]; rfl) | (rw [h78f, h87t, h98t]; rfl) | (rw [h78f, h87t, h98f, decide_eq_true h103t]; rfl) | (rw [h78f, h87f, decide_eq_true h93f, h98t]; rfl) | (exact absurd h103t (by omega))
                        · omega
                      · refine fk_iconst (v := nI 0) d_Md_causal_106 (by decide +kernel) ?_
                        refine fk_top (fn_rf (b := fg_C fl l r) (fr_C_f (show a < 7 by omega) h15f (by rw [fr_ok g1, ← j1]; first | (rw [h78f, h87f, decide_eq_false h93t]; rfl) | (rw [h98f, decide_eq_false h103f]; simp)))) ?_
                        exact hret (0, 0) _ 107 _ () d_Md_causal_107 (trivial) (rfl)
                  · refine fk_iload 5 d_Md_causal_90 rfl ?_
                    refine fk_iconst (v := nI 1) d_Md_causal_92 (by decide +kernel) ?_
                    refine fk_icmp_ne (a := (mtb ((7 * a) + b))) (b := 1) (by omega) (by omega) d_Md_causal_93 rfl (fun h93t => ?_) (fun h93f => ?_)
                    · refine fk_iconst (v := nI 0) d_Md_causal_106 (by decide +kernel) ?_
                      refine fk_top (fn_rf (b := fg_C fl l r) (fr_C_f (show a < 7 by omega) h15f (by rw [fr_ok g1, ← j1]; first | (rw [h78f, h87f, decide_eq_false h93t]; rfl) | (rw [h98f, decide_eq_false h103f]; simp)))) ?_
                      exact hret (0, 0) _ 107 _ () d_Md_causal_107 (trivial) (rfl)
                    · refine fk_iload 6 d_Md_causal_96 rfl ?_
                      refine fk_if_eqB (b := ap) d_Md_causal_98 rfl (fun h98t => ?_) (fun h98f => ?_)
                      · refine fk_iinc (j := 4) (lv' := [(0, .ref b0), (1, .int (nI l)), (2, .int (nI r)), (3, .int (nI a)), (4, .int (nI (b + 1))), (5, .int (nI (mtb ((7 * a) + b)))), (6, .int (nI (Bool.toNat ap)))]) (b + 1) d_Md_causal_108 rfl (nI_1 b) (Nat.le_of_ble_eq_true rfl) [1, 2, 3, 4, 0, 5, 6] rfl ?_
                        refine fk_goto d_Md_causal_111 rfl ?_
                        refine fk_lv (lv' := [(0, .ref b0), (1, .int (nI l)), (2, .int (nI r)), (3, .int (nI a)), (4, .int (nI (b + 1)))]) [0, 1, 2, 3, 4] rfl ?_
                        refine ih11 _ ?_ ?_ ?_
                        · first | omega | assumption | exact Nat.zero_le _
                        · refine fs_lt_t (f := fun j => fg_ok fl l r a j) h4 ?_
                          rw [fr_ok g1, ← j1]
                          first | (rw [h78t, h98t]; rfl) | (rw [h78t, h98f, decide_eq_true h103t]; rfl) | (rw [h78f, h87t, h98t]; rfl) | (rw [h78f, h87t, h98f, decide_eq_true h103t]; rfl) | (rw [h78f, h87f, decide_eq_true h93f, h98t]; rfl) | (exact absurd h103t (by omega))
                        · omega
                      · refine fk_iload 5 d_Md_causal_101 rfl ?_
                        refine fk_if_eq (a := (mtb ((7 * a) + b))) (by omega) d_Md_causal_103 rfl (fun h103t => ?_) (fun h103f => ?_)
                        · refine fk_iinc (j := 4) (lv' := [(0, .ref b0), (1, .int (nI l)), (2, .int (nI r)), (3, .int (nI a)), (4, .int (nI (b + 1))), (5, .int (nI (mtb ((7 * a) + b)))), (6, .int (nI (Bool.toNat ap)))]) (b + 1) d_Md_causal_108 rfl (nI_1 b) (Nat.le_of_ble_eq_true rfl) [1, 2, 3, 4, 0, 5, 6] rfl ?_
                          refine fk_goto d_Md_causal_111 rfl ?_
                          refine fk_lv (lv' := [(0, .ref b0), (1, .int (nI l)), (2, .int (nI r)), (3, .int (nI a)), (4, .int (nI (b + 1)))]) [0, 1, 2, 3, 4] rfl ?_
                          refine ih11 _ ?_ ?_ ?_
                          · first | omega | assumption | exact Nat.zero_le _
                          · refine fs_lt_t (f := fun j => fg_ok fl l r a j) h4 ?_
                            rw [fr_ok g1, ← j1]
                            first | (rw [h78t, h98t]; rfl) | (rw [h78t, h98f, decide_eq_true h103t]; rfl) | (rw [h78f, h87t, h98t]; rfl) | (rw [h78f, h87t, h98f, decide_eq_true h103t]; rfl) | (rw [h78f, h87f, decide_eq_true h93f, h98t]; rfl) | (exact absurd h103t (by omega))
                          · omega
                        · refine fk_iconst (v := nI 0) d_Md_causal_106 (by decide +kernel) ?_
                          refine fk_top (fn_rf (b := fg_C fl l r) (fr_C_f (show a < 7 by omega) h15f (by rw [fr_ok g1, ← j1]; first | (rw [h78f, h87f, decide_eq_false h93t]; rfl) | (rw [h98f, decide_eq_false h103f]; simp)))) ?_
                          exact hret (0, 0) _ 107 _ () d_Md_causal_107 (trivial) (rfl)
              refine fk_iload_n 1 d_Md_causal_32 rfl ?_
              refine fk_iload_n 3 d_Md_causal_33 rfl ?_
              refine fk_callS (As := [.int (nI l), .int (nI a)]) (rest := []) (is := []) (ir := [0, 1]) (ip := [0, 1]) (wc := []) (wr := [(b0, .inr (6, [.int (nI mt), .ref b1, .ref b2, .ref b3, .ref b4, .ref b5, .ref b6, .ref b7, .ref b8, .ref b9, .int (nI mf), .ref b10, .ref b11, .ref b12, .int (nI my), .int (nI (Bool.toNat mw)), .ref b13, .ref b14, .ref b15])), fk_ai E b9 49 mtb]) (w2 := fun _ => [(b0, .inr (6, [.int (nI mt), .ref b1, .ref b2, .ref b3, .ref b4, .ref b5, .ref b6, .ref b7, .ref b8, .ref b9, .int (nI mf), .ref b10, .ref b11, .ref b12, .int (nI my), .int (nI (Bool.toNat mw)), .ref b13, .ref b14, .ref b15])), fk_ai E b9 49 mtb]) (cD_has E l a (by first | omega | assumption) (by first | omega | assumption)) d_Md_causal_34 fz_Md_has fw_604 fw_605 ⟨Nat.le_of_ble_eq_true rfl, Nat.le_of_ble_eq_true rfl⟩ rfl (Nat.le_of_ble_eq_true rfl) ⟨Nat.zero_le _, Nat.zero_le _⟩ ⟨rfl, rfl, rfl, rfl, by decide, fun _ => rfl, rfl⟩ (fun u hu34 => ?_)
              show fk_V E _ K (0, 0) [(b0, .inr (6, [.int (nI mt), .ref b1, .ref b2, .ref b3, .ref b4, .ref b5, .ref b6, .ref b7, .ref b8, .ref b9, .int (nI mf), .ref b10, .ref b11, .ref b12, .int (nI my), .int (nI (Bool.toNat mw)), .ref b13, .ref b14, .ref b15])), fk_ai E b9 49 mtb] 37 [(0, .ref b0), (1, .int (nI l)), (2, .int (nI r)), (3, .int (nI a)), (4, .int (nI b)), (5, .int (nI (mtb ((7 * a) + b))))] [.int (nI (Bool.toNat (Nat.testBit l a)))]
              refine fk_if_eqB (b := (Nat.testBit l a)) d_Md_causal_37 rfl (fun h37t => ?_) (fun h37f => ?_)
              · refine fk_iload_n 2 d_Md_causal_49 rfl ?_
                refine fk_iload_n 3 d_Md_causal_50 rfl ?_
                refine fk_callS (As := [.int (nI r), .int (nI a)]) (rest := []) (is := []) (ir := [0, 1]) (ip := [0, 1]) (wc := []) (wr := [(b0, .inr (6, [.int (nI mt), .ref b1, .ref b2, .ref b3, .ref b4, .ref b5, .ref b6, .ref b7, .ref b8, .ref b9, .int (nI mf), .ref b10, .ref b11, .ref b12, .int (nI my), .int (nI (Bool.toNat mw)), .ref b13, .ref b14, .ref b15])), fk_ai E b9 49 mtb]) (w2 := fun _ => [(b0, .inr (6, [.int (nI mt), .ref b1, .ref b2, .ref b3, .ref b4, .ref b5, .ref b6, .ref b7, .ref b8, .ref b9, .int (nI mf), .ref b10, .ref b11, .ref b12, .int (nI my), .int (nI (Bool.toNat mw)), .ref b13, .ref b14, .ref b15])), fk_ai E b9 49 mtb]) (cD_has E r a (by first | omega | assumption) (by first | omega | assumption)) d_Md_causal_51 fz_Md_has fw_604 fw_605 ⟨Nat.le_of_ble_eq_true rfl, Nat.le_of_ble_eq_true rfl⟩ rfl (Nat.le_of_ble_eq_true rfl) ⟨Nat.zero_le _, Nat.zero_le _⟩ ⟨rfl, rfl, rfl, rfl, by decide, fun _ => rfl, rfl⟩ (fun u hu51 => ?_)
                show fk_V E _ K (0, 0) [(b0, .inr (6, [.int (nI mt), .ref b1, .ref b2, .ref b3, .ref b4, .ref b5, .ref b6, .ref b7, .ref b8, .ref b9, .int (nI mf), .ref b10, .ref b11, .ref b12, .int (nI my), .int (nI (Bool.toNat mw)), .ref b13, .ref b14, .ref b15])), fk_ai E b9 49 mtb] 54 [(0, .ref b0), (1, .int (nI l)), (2, .int (nI r)), (3, .int (nI a)), (4, .int (nI b)), (5, .int (nI (mtb ((7 * a) + b))))] [.int (nI (Bool.toNat (Nat.testBit r a)))]
                refine fk_if_eqB (b := (Nat.testBit r a)) d_Md_causal_54 rfl (fun h54t => ?_) (fun h54f => ?_)
                · refine fk_iconst (v := nI 0) d_Md_causal_70 (by decide +kernel) ?_
                  refine L71 false ?_
                  · first | (rw [h37f, h46t]; rfl) | (rw [h37t, h54t]; simp; done) | (rw [h37t, h54f, h63f]; rfl) | (rw [h37t, h54f, h63t]; rfl) | (rw [h37f, h46f, h54t]; rfl) | (rw [h37f, h46f, h54f, h63f]; rfl) | (rw [h37f, h46f, h54f, h63t]; rfl)
                · refine fk_iload_n 2 d_Md_causal_57 rfl ?_
                  refine fk_iload 4 d_Md_causal_58 rfl ?_
                  refine fk_callS (As := [.int (nI r), .int (nI b)]) (rest := []) (is := []) (ir := [0, 1]) (ip := [0, 1]) (wc := []) (wr := [(b0, .inr (6, [.int (nI mt), .ref b1, .ref b2, .ref b3, .ref b4, .ref b5, .ref b6, .ref b7, .ref b8, .ref b9, .int (nI mf), .ref b10, .ref b11, .ref b12, .int (nI my), .int (nI (Bool.toNat mw)), .ref b13, .ref b14, .ref b15])), fk_ai E b9 49 mtb]) (w2 := fun _ => [(b0, .inr (6, [.int (nI mt), .ref b1, .ref b2, .ref b3, .ref b4, .ref b5, .ref b6, .ref b7, .ref b8, .ref b9, .int (nI mf), .ref b10, .ref b11, .ref b12, .int (nI my), .int (nI (Bool.toNat mw)), .ref b13, .ref b14, .ref b15])), fk_ai E b9 49 mtb]) (cD_has E r b (by first | omega | assumption) (by first | omega | assumption)) d_Md_causal_60 fz_Md_has fw_604 fw_605 ⟨Nat.le_of_ble_eq_true rfl, Nat.le_of_ble_eq_true rfl⟩ rfl (Nat.le_of_ble_eq_true rfl) ⟨Nat.zero_le _, Nat.zero_le _⟩ ⟨rfl, rfl, rfl, rfl, by decide, fun _ => rfl, rfl⟩ (fun u hu60 => ?_)
                  show fk_V E _ K (0, 0) [(b0, .inr (6, [.int (nI mt), .ref b1, .ref b2, .ref b3, .ref b4, .ref b5, .ref b6, .ref b7, .ref b8, .ref b9, .int (nI mf), .ref b10, .ref b11, .ref b12, .int (nI my), .int (nI (Bool.toNat mw)), .ref b13, .ref b14, .ref b15])), fk_ai E b9 49 mtb] 63 [(0, .ref b0), (1, .int (nI l)), (2, .int (nI r)), (3, .int (nI a)), (4, .int (nI b)), (5, .int (nI (mtb ((7 * a) + b))))] [.int (nI (Bool.toNat (Nat.testBit r b)))]
                  refine fk_if_eqB (b := (Nat.testBit r b)) d_Md_causal_63 rfl (fun h63t => ?_) (fun h63f => ?_)
                  · refine fk_iconst (v := nI 0) d_Md_causal_70 (by decide +kernel) ?_
                    refine L71 false ?_
                    · first | (rw [h37f, h46t]; rfl) | (rw [h37t, h54t]; simp; done) | (rw [h37t, h54f, h63f]; rfl) | (rw [h37t, h54f, h63t]; rfl) | (rw [h37f, h46f, h54t]; rfl) | (rw [h37f, h46f, h54f, h63f]; rfl) | (rw [h37f, h46f, h54f, h63t]; rfl)
                  · refine fk_iconst (v := nI 1) d_Md_causal_66 (by decide +kernel) ?_
                    refine fk_goto d_Md_causal_67 rfl ?_
                    refine L71 true ?_
                    · first | (rw [h37f, h46t]; rfl) | (rw [h37t, h54t]; simp; done) | (rw [h37t, h54f, h63f]; rfl) | (rw [h37t, h54f, h63t]; rfl) | (rw [h37f, h46f, h54t]; rfl) | (rw [h37f, h46f, h54f, h63f]; rfl) | (rw [h37f, h46f, h54f, h63t]; rfl)
              · refine fk_iload_n 1 d_Md_causal_40 rfl ?_
                refine fk_iload 4 d_Md_causal_41 rfl ?_
                refine fk_callS (As := [.int (nI l), .int (nI b)]) (rest := []) (is := []) (ir := [0, 1]) (ip := [0, 1]) (wc := []) (wr := [(b0, .inr (6, [.int (nI mt), .ref b1, .ref b2, .ref b3, .ref b4, .ref b5, .ref b6, .ref b7, .ref b8, .ref b9, .int (nI mf), .ref b10, .ref b11, .ref b12, .int (nI my), .int (nI (Bool.toNat mw)), .ref b13, .ref b14, .ref b15])), fk_ai E b9 49 mtb]) (w2 := fun _ => [(b0, .inr (6, [.int (nI mt), .ref b1, .ref b2, .ref b3, .ref b4, .ref b5, .ref b6, .ref b7, .ref b8, .ref b9, .int (nI mf), .ref b10, .ref b11, .ref b12, .int (nI my), .int (nI (Bool.toNat mw)), .ref b13, .ref b14, .ref b15])), fk_ai E b9 49 mtb]) (cD_has E l b (by first | omega | assumption) (by first | omega | assumption)) d_Md_causal_43 fz_Md_has fw_604 fw_605 ⟨Nat.le_of_ble_eq_true rfl, Nat.le_of_ble_eq_true rfl⟩ rfl (Nat.le_of_ble_eq_true rfl) ⟨Nat.zero_le _, Nat.zero_le _⟩ ⟨rfl, rfl, rfl, rfl, by decide, fun _ => rfl, rfl⟩ (fun u hu43 => ?_)
                show fk_V E _ K (0, 0) [(b0, .inr (6, [.int (nI mt), .ref b1, .ref b2, .ref b3, .ref b4, .ref b5, .ref b6, .ref b7, .ref b8, .ref b9, .int (nI mf), .ref b10, .ref b11, .ref b12, .int (nI my), .int (nI (Bool.toNat mw)), .ref b13, .ref b14, .ref b15])), fk_ai E b9 49 mtb] 46 [(0, .ref b0), (1, .int (nI l)), (2, .int (nI r)), (3, .int (nI a)), (4, .int (nI b)), (5, .int (nI (mtb ((7 * a) + b))))] [.int (nI (Bool.toNat (Nat.testBit l b)))]
                refine fk_if_neB (b := (Nat.testBit l b)) d_Md_causal_46 rfl (fun h46t => ?_) (fun h46f => ?_)
                · refine fk_iconst (v := nI 1) d_Md_causal_66 (by decide +kernel) ?_
                  refine fk_goto d_Md_causal_67 rfl ?_
                  refine L71 true ?_
                  · first | (rw [h37f, h46t]; rfl) | (rw [h37t, h54t]; simp; done) | (rw [h37t, h54f, h63f]; rfl) | (rw [h37t, h54f, h63t]; rfl) | (rw [h37f, h46f, h54t]; rfl) | (rw [h37f, h46f, h54f, h63f]; rfl) | (rw [h37f, h46f, h54f, h63t]; rfl)
                · refine fk_iload_n 2 d_Md_causal_49 rfl ?_
                  refine fk_iload_n 3 d_Md_causal_50 rfl ?_
                  refine fk_callS (As := [.int (nI r), .int (nI a)]) (rest := []) (is := []) (ir := [0, 1]) (ip := [0, 1]) (wc := []) (wr := [(b0, .inr (6, [.int (nI mt), .ref b1, .ref b2, .ref b3, .ref b4, .ref b5, .ref b6, .ref b7, .ref b8, .ref b9, .int (nI mf), .ref b10, .ref b11, .ref b12, .int (nI my), .int (nI (Bool.toNat mw)), .ref b13, .ref b14, .ref b15])), fk_ai E b9 49 mtb]) (w2 := fun _ => [(b0, .inr (6, [.int (nI mt), .ref b1, .ref b2, .ref b3, .ref b4, .ref b5, .ref b6, .ref b7, .ref b8, .ref b9, .int (nI mf), .ref b10, .ref b11, .ref b12, .int (nI my), .int (nI (Bool.toNat mw)), .ref b13, .ref b14, .ref b15])), fk_ai E b9 49 mtb]) (cD_has E r a (by first | omega | assumption) (by first | omega | assumption)) d_Md_causal_51 fz_Md_has fw_604 fw_605 ⟨Nat.le_of_ble_eq_true rfl, Nat.le_of_ble_eq_true rfl⟩ rfl (Nat.le_of_ble_eq_true rfl) ⟨Nat.zero_le _, Nat.zero_le _⟩ ⟨rfl, rfl, rfl, rfl, by decide, fun _ => rfl, rfl⟩ (fun u hu51 => ?_)
                  show fk_V E _ K (0, 0) [(b0, .inr (6, [.int (nI mt), .ref b1, .ref b2, .ref b3, .ref b4, .ref b5, .ref b6, .ref b7, .ref b8, .ref b9, .int (nI mf), .ref b10, .ref b11, .ref b12, .int (nI my), .int (nI (Bool.toNat mw)), .ref b13, .ref b14, .ref b15])), fk_ai E b9 49 mtb] 54 [(0, .ref b0), (1, .int (nI l)), (2, .int (nI r)), (3, .int (nI a)), (4, .int (nI b)), (5, .int (nI (mtb ((7 * a) + b))))] [.int (nI (Bool.toNat (Nat.testBit r a)))]
                  refine fk_if_eqB (b := (Nat.testBit r a)) d_Md_causal_54 rfl (fun h54t => ?_) (fun h54f => ?_)
                  · refine fk_iconst (v := nI 0) d_Md_causal_70 (by decide +kernel) ?_
                    refine L71 false ?_
                    · first | (rw [h37f, h46t]; rfl) | (rw [h37t, h54t]; simp; done) | (rw [h37t, h54f, h63f]; rfl) | (rw [h37t, h54f, h63t]; rfl) | (rw [h37f, h46f, h54t]; rfl) | (rw [h37f, h46f, h54f, h63f]; rfl) | (rw [h37f, h46f, h54f, h63t]; rfl)
                  · refine fk_iload_n 2 d_Md_causal_57 rfl ?_
                    refine fk_iload 4 d_Md_causal_58 rfl ?_
                    refine fk_callS (As := [.int (nI r), .int (nI b)]) (rest := []) (is := []) (ir := [0, 1]) (ip := [0, 1]) (wc := []) (wr := [(b0, .inr (6, [.int (nI mt), .ref b1, .ref b2, .ref b3, .ref b4, .ref b5, .ref b6, .ref b7, .ref b8, .ref b9, .int (nI mf), .ref b10, .ref b11, .ref b12, .int (nI my), .int (nI (Bool.toNat mw)), .ref b13, .ref b14, .ref b15])), fk_ai E b9 49 mtb]) (w2 := fun _ => [(b0, .inr (6, [.int (nI mt), .ref b1, .ref b2, .ref b3, .ref b4, .ref b5, .ref b6, .ref b7, .ref b8, .ref b9, .int (nI mf), .ref b10, .ref b11, .ref b12, .int (nI my), .int (nI (Bool.toNat mw)), .ref b13, .ref b14, .ref b15])), fk_ai E b9 49 mtb]) (cD_has E r b (by first | omega | assumption) (by first | omega | assumption)) d_Md_causal_60 fz_Md_has fw_604 fw_605 ⟨Nat.le_of_ble_eq_true rfl, Nat.le_of_ble_eq_true rfl⟩ rfl (Nat.le_of_ble_eq_true rfl) ⟨Nat.zero_le _, Nat.zero_le _⟩ ⟨rfl, rfl, rfl, rfl, by decide, fun _ => rfl, rfl⟩ (fun u hu60 => ?_)
                    show fk_V E _ K (0, 0) [(b0, .inr (6, [.int (nI mt), .ref b1, .ref b2, .ref b3, .ref b4, .ref b5, .ref b6, .ref b7, .ref b8, .ref b9, .int (nI mf), .ref b10, .ref b11, .ref b12, .int (nI my), .int (nI (Bool.toNat mw)), .ref b13, .ref b14, .ref b15])), fk_ai E b9 49 mtb] 63 [(0, .ref b0), (1, .int (nI l)), (2, .int (nI r)), (3, .int (nI a)), (4, .int (nI b)), (5, .int (nI (mtb ((7 * a) + b))))] [.int (nI (Bool.toNat (Nat.testBit r b)))]
                    refine fk_if_eqB (b := (Nat.testBit r b)) d_Md_causal_63 rfl (fun h63t => ?_) (fun h63f => ?_)
                    · refine fk_iconst (v := nI 0) d_Md_causal_70 (by decide +kernel) ?_
                      refine L71 false ?_
                      · first | (rw [h37f, h46t]; rfl) | (rw [h37t, h54t]; simp; done) | (rw [h37t, h54f, h63f]; rfl) | (rw [h37t, h54f, h63t]; rfl) | (rw [h37f, h46f, h54t]; rfl) | (rw [h37f, h46f, h54f, h63f]; rfl) | (rw [h37f, h46f, h54f, h63t]; rfl)
                    · refine fk_iconst (v := nI 1) d_Md_causal_66 (by decide +kernel) ?_
                      refine fk_goto d_Md_causal_67 rfl ?_
                      refine L71 true ?_
                      · first | (rw [h37f, h46t]; rfl) | (rw [h37t, h54t]; simp; done) | (rw [h37t, h54f, h63f]; rfl) | (rw [h37t, h54f, h63t]; rfl) | (rw [h37f, h46f, h54t]; rfl) | (rw [h37f, h46f, h54f, h63f]; rfl) | (rw [h37f, h46f, h54f, h63t]; rfl)
        refine L11 _ _ ?_ ?_ (Nat.lt_succ_self _)
        · first | omega | assumption | exact Nat.zero_le _
        · exact fs_lt_0
  refine L2 _ _ ?_ ?_ (Nat.lt_succ_self _)
  · first | omega | assumption | exact Nat.zero_le _
  · exact fs_lt_0
theorem d_Md_greatest_0 : decode prog_8_method_11_code 0 = .ok (.iconst 0, 1) := by decide +kernel
theorem d_Md_greatest_1 : decode prog_8_method_11_code 1 = .ok (.istore_n 3, 1) := by decide +kernel
theorem d_Md_greatest_2 : decode prog_8_method_11_code 2 = .ok (.iload_n 3, 1) := by decide +kernel
theorem d_Md_greatest_3 : decode prog_8_method_11_code 3 = .ok (.bipush 7, 2) := by decide +kernel
theorem d_Md_greatest_5 : decode prog_8_method_11_code 5 = .ok (.if_icmp .ge 65, 3) := by decide +kernel
theorem d_Md_greatest_8 : decode prog_8_method_11_code 8 = .ok (.iload_n 1, 1) := by decide +kernel
theorem d_Md_greatest_9 : decode prog_8_method_11_code 9 = .ok (.iload_n 3, 1) := by decide +kernel
theorem d_Md_greatest_10 : decode prog_8_method_11_code 10 = .ok (.invokestatic 66, 3) := by decide +kernel
theorem d_Md_greatest_13 : decode prog_8_method_11_code 13 = .ok (.ifCond .ne 16, 3) := by decide +kernel
theorem d_Md_greatest_16 : decode prog_8_method_11_code 16 = .ok (.aload_n 0, 1) := by decide +kernel
theorem d_Md_greatest_17 : decode prog_8_method_11_code 17 = .ok (.iload_n 1, 1) := by decide +kernel
theorem d_Md_greatest_18 : decode prog_8_method_11_code 18 = .ok (.iconst 1, 1) := by decide +kernel
theorem d_Md_greatest_19 : decode prog_8_method_11_code 19 = .ok (.iload_n 3, 1) := by decide +kernel
theorem d_Md_greatest_20 : decode prog_8_method_11_code 20 = .ok (.ishl, 1) := by decide +kernel
theorem d_Md_greatest_21 : decode prog_8_method_11_code 21 = .ok (.ior, 1) := by decide +kernel
theorem d_Md_greatest_22 : decode prog_8_method_11_code 22 = .ok (.iload_n 2, 1) := by decide +kernel
theorem d_Md_greatest_23 : decode prog_8_method_11_code 23 = .ok (.invokevirtual 69, 3) := by decide +kernel
theorem d_Md_greatest_26 : decode prog_8_method_11_code 26 = .ok (.ifCond .ne 24, 3) := by decide +kernel
theorem d_Md_greatest_29 : decode prog_8_method_11_code 29 = .ok (.iload_n 2, 1) := by decide +kernel
theorem d_Md_greatest_30 : decode prog_8_method_11_code 30 = .ok (.iload_n 3, 1) := by decide +kernel
theorem d_Md_greatest_31 : decode prog_8_method_11_code 31 = .ok (.invokestatic 66, 3) := by decide +kernel
theorem d_Md_greatest_34 : decode prog_8_method_11_code 34 = .ok (.ifCond .ne 20, 3) := by decide +kernel
theorem d_Md_greatest_37 : decode prog_8_method_11_code 37 = .ok (.aload_n 0, 1) := by decide +kernel
theorem d_Md_greatest_38 : decode prog_8_method_11_code 38 = .ok (.iload_n 1, 1) := by decide +kernel
theorem d_Md_greatest_39 : decode prog_8_method_11_code 39 = .ok (.iload_n 2, 1) := by decide +kernel
theorem d_Md_greatest_40 : decode prog_8_method_11_code 40 = .ok (.iconst 1, 1) := by decide +kernel
theorem d_Md_greatest_41 : decode prog_8_method_11_code 41 = .ok (.iload_n 3, 1) := by decide +kernel
theorem d_Md_greatest_42 : decode prog_8_method_11_code 42 = .ok (.ishl, 1) := by decide +kernel
theorem d_Md_greatest_43 : decode prog_8_method_11_code 43 = .ok (.ior, 1) := by decide +kernel
theorem d_Md_greatest_44 : decode prog_8_method_11_code 44 = .ok (.invokevirtual 69, 3) := by decide +kernel
theorem d_Md_greatest_47 : decode prog_8_method_11_code 47 = .ok (.ifCond .eq 7, 3) := by decide +kernel
theorem d_Md_greatest_50 : decode prog_8_method_11_code 50 = .ok (.iconst 1, 1) := by decide +kernel
theorem d_Md_greatest_51 : decode prog_8_method_11_code 51 = .ok (.goto 4, 3) := by decide +kernel
theorem d_Md_greatest_54 : decode prog_8_method_11_code 54 = .ok (.iconst 0, 1) := by decide +kernel
theorem d_Md_greatest_55 : decode prog_8_method_11_code 55 = .ok (.istore 4, 2) := by decide +kernel
theorem d_Md_greatest_57 : decode prog_8_method_11_code 57 = .ok (.iload 4, 2) := by decide +kernel
theorem d_Md_greatest_59 : decode prog_8_method_11_code 59 = .ok (.ifCond .eq 5, 3) := by decide +kernel
theorem d_Md_greatest_62 : decode prog_8_method_11_code 62 = .ok (.iconst 0, 1) := by decide +kernel
theorem d_Md_greatest_63 : decode prog_8_method_11_code 63 = .ok (.ireturn, 1) := by decide +kernel
theorem d_Md_greatest_64 : decode prog_8_method_11_code 64 = .ok (.iinc 3 1, 3) := by decide +kernel
theorem d_Md_greatest_67 : decode prog_8_method_11_code 67 = .ok (.goto (-65), 3) := by decide +kernel
theorem d_Md_greatest_70 : decode prog_8_method_11_code 70 = .ok (.iconst 1, 1) := by decide +kernel
theorem d_Md_greatest_71 : decode prog_8_method_11_code 71 = .ok (.ireturn, 1) := by decide +kernel
set_option maxRecDepth 20000 in
set_option maxHeartbeats 4000000 in
theorem cD_greatest (E : fk_E) (b0 : Nat) (b1 : Nat) (b2 : Nat) (b3 : Nat) (b4 : Nat) (b5 : Nat) (b6 : Nat) (b7 : Nat) (b8 : Nat) (b9 : Nat) (b10 : Nat) (b11 : Nat) (b12 : Nat) (b13 : Nat) (b14 : Nat) (b15 : Nat) (mt : Nat) (mf : Nat) (my : Nat) (mw : Bool) (mtb : Nat → Nat) (fl : Nat → Nat → Bool) (l : Nat) (r : Nat) (ht : ∀ a, a < 7 → ∀ b, b < 7 → mtb (7 * a + b) = Bool.toNat (fl a b) + 2 * Bool.toNat (fl b a)) (hl : l < 128) (hr : r < 128) : fk_C E fy_Md_greatest prog_8_method_11_code 5 (some .boolean) 2 0 0 [.ref b0, .int (nI l), .int (nI r)] [(b0, .inr (6, [.int (nI mt), .ref b1, .ref b2, .ref b3, .ref b4, .ref b5, .ref b6, .ref b7, .ref b8, .ref b9, .int (nI mf), .ref b10, .ref b11, .ref b12, .int (nI my), .int (nI (Bool.toNat mw)), .ref b13, .ref b14, .ref b15])), fk_ai E b9 49 mtb] (S := Unit) (fun _ => some (.int (nI (Bool.toNat (fg_G fl l r))))) (fun _ => True) (fun _ => [(b0, .inr (6, [.int (nI mt), .ref b1, .ref b2, .ref b3, .ref b4, .ref b5, .ref b6, .ref b7, .ref b8, .ref b9, .int (nI mf), .ref b10, .ref b11, .ref b12, .int (nI my), .int (nI (Bool.toNat mw)), .ref b13, .ref b14, .ref b15])), fk_ai E b9 49 mtb]) := by
  refine fk_enterZ (v := fun _ => fg_G fl l r) (by decide) (Nat.le_of_ble_eq_true rfl) (lv0 := [(0, .ref b0), (1, .int (nI l)), (2, .int (nI r))]) rfl ?_
  intro K hini hret
  refine fk_iconst (v := nI 0) d_Md_greatest_0 (by decide +kernel) ?_
  refine fk_istore_n (lv' := [(0, .ref b0), (1, .int (nI l)), (2, .int (nI r)), (3, .int (nI 0))]) d_Md_greatest_1 rfl (Nat.le_of_ble_eq_true rfl) [1, 2, 3, 0] rfl ?_
  have L2 : ∀ (fuel : Nat) (a : Nat), (a ≤ 7) → (∀ j, j < a → fg_more fl l r j = false) → 7 - a < fuel → fk_V E (prog_8_method_11_code, fy_Md_greatest.cls, 5, fk_rm 2 0 0) K (0, 0) [(b0, .inr (6, [.int (nI mt), .ref b1, .ref b2, .ref b3, .ref b4, .ref b5, .ref b6, .ref b7, .ref b8, .ref b9, .int (nI mf), .ref b10, .ref b11, .ref b12, .int (nI my), .int (nI (Bool.toNat mw)), .ref b13, .ref b14, .ref b15])), fk_ai E b9 49 mtb] 2 [(0, .ref b0), (1, .int (nI l)), (2, .int (nI r)), (3, .int (nI a))] [] := by
    intro fuel
    induction fuel with
    | zero => intro a _ _ hm; exact absurd hm (Nat.not_lt_zero _)
    | succ fuel ih =>
      intro a h1 h2 hm2
      have ih2 := ih
      clear ih
      refine fk_iload_n 3 d_Md_greatest_2 rfl ?_
      refine fk_bipush (v := nI 7) d_Md_greatest_3 (by decide +kernel) ?_
      refine fk_icmp_ge (a := a) (b := 7) (by omega) (by omega) d_Md_greatest_5 rfl (fun h5t => ?_) (fun h5f => ?_)
      · refine fk_iconst (v := nI 1) d_Md_greatest_70 (by decide +kernel) ?_
        refine fk_top (fn_rt (b := fg_G fl l r) (by unfold fg_G; rw [fs_any_f.mpr (fun j hj => h2 j (by omega))]; rfl)) ?_
        exact hret (0, 0) _ 71 _ () d_Md_greatest_71 (trivial) (rfl)
      · have g5 := fb_pow_lt h5f
        have L55 : ∀ (mo2 : Bool), (mo2 = fg_more fl l r a) → fk_V E (prog_8_method_11_code, fy_Md_greatest.cls, 5, fk_rm 2 0 0) K (0, 0) [(b0, .inr (6, [.int (nI mt), .ref b1, .ref b2, .ref b3, .ref b4, .ref b5, .ref b6, .ref b7, .ref b8, .ref b9, .int (nI mf), .ref b10, .ref b11, .ref b12, .int (nI my), .int (nI (Bool.toNat mw)), .ref b13, .ref b14, .ref b15])), fk_ai E b9 49 mtb] 55 [(0, .ref b0), (1, .int (nI l)), (2, .int (nI r)), (3, .int (nI a))] [.int (nI (Bool.toNat mo2))] := by
          intro mo2 j1
          refine fk_istore (lv' := [(0, .ref b0), (1, .int (nI l)), (2, .int (nI r)), (3, .int (nI a)), (4, .int (nI (Bool.toNat mo2)))]) d_Md_greatest_55 (Nat.le_of_ble_eq_true rfl) [1, 2, 3, 4, 0] rfl ?_
          refine fk_iload 4 d_Md_greatest_57 rfl ?_
          refine fk_if_eqB (b := mo2) d_Md_greatest_59 rfl (fun h59t => ?_) (fun h59f => ?_)
          · refine fk_iinc (j := 3) (lv' := [(0, .ref b0), (1, .int (nI l)), (2, .int (nI r)), (3, .int (nI (a + 1))), (4, .int (nI (Bool.toNat mo2)))]) (a + 1) d_Md_greatest_64 rfl (nI_1 a) (Nat.le_of_ble_eq_true rfl) [1, 2, 3, 0, 4] rfl ?_
            refine fk_goto d_Md_greatest_67 rfl ?_
            refine fk_lv (lv' := [(0, .ref b0), (1, .int (nI l)), (2, .int (nI r)), (3, .int (nI (a + 1)))]) [0, 1, 2, 3] rfl ?_
            refine ih2 _ ?_ ?_ ?_
            · first | omega | assumption | exact Nat.zero_le _
            · exact fs_lt_s h2 (j1.symm.trans h59t)
            · omega
          · refine fk_iconst (v := nI 0) d_Md_greatest_62 (by decide +kernel) ?_
            refine fk_top (fn_rf (b := fg_G fl l r) (by unfold fg_G; rw [fs_any_t h5f (j1.symm.trans h59f)]; rfl)) ?_
            exact hret (0, 0) _ 63 _ () d_Md_greatest_63 (trivial) (rfl)
        refine fk_iload_n 1 d_Md_greatest_8 rfl ?_
        refine fk_iload_n 3 d_Md_greatest_9 rfl ?_
        refine fk_callS (As := [.int (nI l), .int (nI a)]) (rest := []) (is := []) (ir := [0, 1]) (ip := [0, 1]) (wc := []) (wr := [(b0, .inr (6, [.int (nI mt), .ref b1, .ref b2, .ref b3, .ref b4, .ref b5, .ref b6, .ref b7, .ref b8, .ref b9, .int (nI mf), .ref b10, .ref b11, .ref b12, .int (nI my), .int (nI (Bool.toNat mw)), .ref b13, .ref b14, .ref b15])), fk_ai E b9 49 mtb]) (w2 := fun _ => [(b0, .inr (6, [.int (nI mt), .ref b1, .ref b2, .ref b3, .ref b4, .ref b5, .ref b6, .ref b7, .ref b8, .ref b9, .int (nI mf), .ref b10, .ref b11, .ref b12, .int (nI my), .int (nI (Bool.toNat mw)), .ref b13, .ref b14, .ref b15])), fk_ai E b9 49 mtb]) (cD_has E l a (by first | omega | assumption) (by first | omega | assumption)) d_Md_greatest_10 fz_Md_has fw_604 fw_605 ⟨Nat.le_of_ble_eq_true rfl, Nat.le_of_ble_eq_true rfl⟩ rfl (Nat.le_of_ble_eq_true rfl) ⟨Nat.zero_le _, Nat.zero_le _⟩ ⟨rfl, rfl, rfl, rfl, by decide, fun _ => rfl, rfl⟩ (fun u hu10 => ?_)
        show fk_V E _ K (0, 0) [(b0, .inr (6, [.int (nI mt), .ref b1, .ref b2, .ref b3, .ref b4, .ref b5, .ref b6, .ref b7, .ref b8, .ref b9, .int (nI mf), .ref b10, .ref b11, .ref b12, .int (nI my), .int (nI (Bool.toNat mw)), .ref b13, .ref b14, .ref b15])), fk_ai E b9 49 mtb] 13 [(0, .ref b0), (1, .int (nI l)), (2, .int (nI r)), (3, .int (nI a))] [.int (nI (Bool.toNat (Nat.testBit l a)))]
        refine fk_if_neB (b := (Nat.testBit l a)) d_Md_greatest_13 rfl (fun h13t => ?_) (fun h13f => ?_)
        · refine fk_iload_n 2 d_Md_greatest_29 rfl ?_
          refine fk_iload_n 3 d_Md_greatest_30 rfl ?_
          refine fk_callS (As := [.int (nI r), .int (nI a)]) (rest := []) (is := []) (ir := [0, 1]) (ip := [0, 1]) (wc := []) (wr := [(b0, .inr (6, [.int (nI mt), .ref b1, .ref b2, .ref b3, .ref b4, .ref b5, .ref b6, .ref b7, .ref b8, .ref b9, .int (nI mf), .ref b10, .ref b11, .ref b12, .int (nI my), .int (nI (Bool.toNat mw)), .ref b13, .ref b14, .ref b15])), fk_ai E b9 49 mtb]) (w2 := fun _ => [(b0, .inr (6, [.int (nI mt), .ref b1, .ref b2, .ref b3, .ref b4, .ref b5, .ref b6, .ref b7, .ref b8, .ref b9, .int (nI mf), .ref b10, .ref b11, .ref b12, .int (nI my), .int (nI (Bool.toNat mw)), .ref b13, .ref b14, .ref b15])), fk_ai E b9 49 mtb]) (cD_has E r a (by first | omega | assumption) (by first | omega | assumption)) d_Md_greatest_31 fz_Md_has fw_604 fw_605 ⟨Nat.le_of_ble_eq_true rfl, Nat.le_of_ble_eq_true rfl⟩ rfl (Nat.le_of_ble_eq_true rfl) ⟨Nat.zero_le _, Nat.zero_le _⟩ ⟨rfl, rfl, rfl, rfl, by decide, fun _ => rfl, rfl⟩ (fun u hu31 => ?_)
          show fk_V E _ K (0, 0) [(b0, .inr (6, [.int (nI mt), .ref b1, .ref b2, .ref b3, .ref b4, .ref b5, .ref b6, .ref b7, .ref b8, .ref b9, .int (nI mf), .ref b10, .ref b11, .ref b12, .int (nI my), .int (nI (Bool.toNat mw)), .ref b13, .ref b14, .ref b15])), fk_ai E b9 49 mtb] 34 [(0, .ref b0), (1, .int (nI l)), (2, .int (nI r)), (3, .int (nI a))] [.int (nI (Bool.toNat (Nat.testBit r a)))]
          refine fk_if_neB (b := (Nat.testBit r a)) d_Md_greatest_34 rfl (fun h34t => ?_) (fun h34f => ?_)
          · refine fk_iconst (v := nI 0) d_Md_greatest_54 (by decide +kernel) ?_
            refine L55 false ?_
            · unfold fg_more
              first | (rw [h13f, h26t]; rfl) | (rw [h13t, h34t]; rfl) | (rw [h13t, h34f, h47t]; rfl) | (rw [h13t, h34f, h47f]; rfl) | (rw [h13f, h26f, h34t]; rfl) | (rw [h13f, h26f, h34f, h47t]; rfl) | (rw [h13f, h26f, h34f, h47f]; rfl)
          · refine fk_aload_n 0 d_Md_greatest_37 rfl ?_
            refine fk_iload_n 1 d_Md_greatest_38 rfl ?_
            refine fk_iload_n 2 d_Md_greatest_39 rfl ?_
            refine fk_iconst (v := nI 1) d_Md_greatest_40 (by decide +kernel) ?_
            refine fk_iload_n 3 d_Md_greatest_41 rfl ?_
            refine fk_ishl (a := 1) (b := a) d_Md_greatest_42 (by omega) (by omega) ?_
            refine fk_top (show nI (1 * 2 ^ a) = nI (2 ^ a) by rw [Nat.one_mul]) ?_
            refine fk_ior (a := r) (b := (2 ^ a)) d_Md_greatest_43 ?_
            refine fk_callV (q0 := 0) (As := [.int (nI l), .int (nI (r ||| (2 ^ a)))]) (rest := []) (is := [0, 1]) (ir := []) (ip := [0, 1]) (wc := [(b0, .inr (6, [.int (nI mt), .ref b1, .ref b2, .ref b3, .ref b4, .ref b5, .ref b6, .ref b7, .ref b8, .ref b9, .int (nI mf), .ref b10, .ref b11, .ref b12, .int (nI my), .int (nI (Bool.toNat mw)), .ref b13, .ref b14, .ref b15])), fk_ai E b9 49 mtb]) (wr := []) (w2 := fun _ => [(b0, .inr (6, [.int (nI mt), .ref b1, .ref b2, .ref b3, .ref b4, .ref b5, .ref b6, .ref b7, .ref b8, .ref b9, .int (nI mf), .ref b10, .ref b11, .ref b12, .int (nI my), .int (nI (Bool.toNat mw)), .ref b13, .ref b14, .ref b15])), fk_ai E b9 49 mtb]) (cD_causal E b0 b1 b2 b3 b4 b5 b6 b7 b8 b9 b10 b11 b12 b13 b14 b15 mt mf my mw mtb fl l (r ||| (2 ^ a)) ht (by first | omega | assumption) (fb_or_lt hr g5)) d_Md_greatest_44 fz_Md_causal fw_600 rfl rfl fw_602 fw_p17 ⟨Nat.le_of_ble_eq_true rfl, Nat.le_of_ble_eq_true rfl⟩ rfl (Nat.le_of_ble_eq_true rfl) ⟨Nat.zero_le _, Nat.zero_le _⟩ ⟨rfl, rfl, rfl, rfl, by decide, fun _ => rfl, rfl⟩ (fun u hu44 => ?_)
            show fk_V E _ K (0, 0) [(b0, .inr (6, [.int (nI mt), .ref b1, .ref b2, .ref b3, .ref b4, .ref b5, .ref b6, .ref b7, .ref b8, .ref b9, .int (nI mf), .ref b10, .ref b11, .ref b12, .int (nI my), .int (nI (Bool.toNat mw)), .ref b13, .ref b14, .ref b15])), fk_ai E b9 49 mtb] 47 [(0, .ref b0), (1, .int (nI l)), (2, .int (nI r)), (3, .int (nI a))] [.int (nI (Bool.toNat (fg_C fl l (r ||| (2 ^ a)))))]
            refine fk_if_eqB (b := (fg_C fl l (r ||| (2 ^ a)))) d_Md_greatest_47 rfl (fun h47t => ?_) (fun h47f => ?_)
            · refine fk_iconst (v := nI 0) d_Md_greatest_54 (by decide +kernel) ?_
              refine L55 false ?_
              · unfold fg_more
                first | (rw [h13f, h26t]; rfl) | (rw [h13t, h34t]; rfl) | (rw [h13t, h34f, h47t]; rfl) | (rw [h13t, h34f, h47f]; rfl) | (rw [h13f, h26f, h34t]; rfl) | (rw [h13f, h26f, h34f, h47t]; rfl) | (rw [h13f, h26f, h34f, h47f]; rfl)
            · refine fk_iconst (v := nI 1) d_Md_greatest_50 (by decide +kernel) ?_
              refine fk_goto d_Md_greatest_51 rfl ?_
              refine L55 true ?_
              · unfold fg_more
                first | (rw [h13f, h26t]; rfl) | (rw [h13t, h34t]; rfl) | (rw [h13t, h34f, h47t]; rfl) | (rw [h13t, h34f, h47f]; rfl) | (rw [h13f, h26f, h34t]; rfl) | (rw [h13f, h26f, h34f, h47t]; rfl) | (rw [h13f, h26f, h34f, h47f]; rfl)
        · refine fk_aload_n 0 d_Md_greatest_16 rfl ?_
          refine fk_iload_n 1 d_Md_greatest_17 rfl ?_
          refine fk_iconst (v := nI 1) d_Md_greatest_18 (by decide +kernel) ?_
          refine fk_iload_n 3 d_Md_greatest_19 rfl ?_
          refine fk_ishl (a := 1) (b := a) d_Md_greatest_20 (by omega) (by omega) ?_
          refine fk_top (show nI (1 * 2 ^ a) = nI (2 ^ a) by rw [Nat.one_mul]) ?_
          refine fk_ior (a := l) (b := (2 ^ a)) d_Md_greatest_21 ?_
          refine fk_iload_n 2 d_Md_greatest_22 rfl ?_
          refine fk_callV (q0 := 0) (As := [.int (nI (l ||| (2 ^ a))), .int (nI r)]) (rest := []) (is := [0, 1]) (ir := []) (ip := [0, 1]) (wc := [(b0, .inr (6, [.int (nI mt), .ref b1, .ref b2, .ref b3, .ref b4, .ref b5, .ref b6, .ref b7, .ref b8, .ref b9, .int (nI mf), .ref b10, .ref b11, .ref b12, .int (nI my), .int (nI (Bool.toNat mw)), .ref b13, .ref b14, .ref b15])), fk_ai E b9 49 mtb]) (wr := []) (w2 := fun _ => [(b0, .inr (6, [.int (nI mt), .ref b1, .ref b2, .ref b3, .ref b4, .ref b5, .ref b6, .ref b7, .ref b8, .ref b9, .int (nI mf), .ref b10, .ref b11, .ref b12, .int (nI my), .int (nI (Bool.toNat mw)), .ref b13, .ref b14, .ref b15])), fk_ai E b9 49 mtb]) (cD_causal E b0 b1 b2 b3 b4 b5 b6 b7 b8 b9 b10 b11 b12 b13 b14 b15 mt mf my mw mtb fl (l ||| (2 ^ a)) r ht (fb_or_lt hl g5) (by first | omega | assumption)) d_Md_greatest_23 fz_Md_causal fw_600 rfl rfl fw_602 fw_p17 ⟨Nat.le_of_ble_eq_true rfl, Nat.le_of_ble_eq_true rfl⟩ rfl (Nat.le_of_ble_eq_true rfl) ⟨Nat.zero_le _, Nat.zero_le _⟩ ⟨rfl, rfl, rfl, rfl, by decide, fun _ => rfl, rfl⟩ (fun u hu23 => ?_)
          show fk_V E _ K (0, 0) [(b0, .inr (6, [.int (nI mt), .ref b1, .ref b2, .ref b3, .ref b4, .ref b5, .ref b6, .ref b7, .ref b8, .ref b9, .int (nI mf), .ref b10, .ref b11, .ref b12, .int (nI my), .int (nI (Bool.toNat mw)), .ref b13, .ref b14, .ref b15])), fk_ai E b9 49 mtb] 26 [(0, .ref b0), (1, .int (nI l)), (2, .int (nI r)), (3, .int (nI a))] [.int (nI (Bool.toNat (fg_C fl (l ||| (2 ^ a)) r)))]
          refine fk_if_neB (b := (fg_C fl (l ||| (2 ^ a)) r)) d_Md_greatest_26 rfl (fun h26t => ?_) (fun h26f => ?_)
          · refine fk_iconst (v := nI 1) d_Md_greatest_50 (by decide +kernel) ?_
            refine fk_goto d_Md_greatest_51 rfl ?_
            refine L55 true ?_
            · unfold fg_more
              first | (rw [h13f, h26t]; rfl) | (rw [h13t, h34t]; rfl) | (rw [h13t, h34f, h47t]; rfl) | (rw [h13t, h34f, h47f]; rfl) | (rw [h13f, h26f, h34t]; rfl) | (rw [h13f, h26f, h34f, h47t]; rfl) | (rw [h13f, h26f, h34f, h47f]; rfl)
          · refine fk_iload_n 2 d_Md_greatest_29 rfl ?_
            refine fk_iload_n 3 d_Md_greatest_30 rfl ?_
            refine fk_callS (As := [.int (nI r), .int (nI a)]) (rest := []) (is := []) (ir := [0, 1]) (ip := [0, 1]) (wc := []) (wr := [(b0, .inr (6, [.int (nI mt), .ref b1, .ref b2, .ref b3, .ref b4, .ref b5, .ref b6, .ref b7, .ref b8, .ref b9, .int (nI mf), .ref b10, .ref b11, .ref b12, .int (nI my), .int (nI (Bool.toNat mw)), .ref b13, .ref b14, .ref b15])), fk_ai E b9 49 mtb]) (w2 := fun _ => [(b0, .inr (6, [.int (nI mt), .ref b1, .ref b2, .ref b3, .ref b4, .ref b5, .ref b6, .ref b7, .ref b8, .ref b9, .int (nI mf), .ref b10, .ref b11, .ref b12, .int (nI my), .int (nI (Bool.toNat mw)), .ref b13, .ref b14, .ref b15])), fk_ai E b9 49 mtb]) (cD_has E r a (by first | omega | assumption) (by first | omega | assumption)) d_Md_greatest_31 fz_Md_has fw_604 fw_605 ⟨Nat.le_of_ble_eq_true rfl, Nat.le_of_ble_eq_true rfl⟩ rfl (Nat.le_of_ble_eq_true rfl) ⟨Nat.zero_le _, Nat.zero_le _⟩ ⟨rfl, rfl, rfl, rfl, by decide, fun _ => rfl, rfl⟩ (fun u hu31 => ?_)
            show fk_V E _ K (0, 0) [(b0, .inr (6, [.int (nI mt), .ref b1, .ref b2, .ref b3, .ref b4, .ref b5, .ref b6, .ref b7, .ref b8, .ref b9, .int (nI mf), .ref b10, .ref b11, .ref b12, .int (nI my), .int (nI (Bool.toNat mw)), .ref b13, .ref b14, .ref b15])), fk_ai E b9 49 mtb] 34 [(0, .ref b0), (1, .int (nI l)), (2, .int (nI r)), (3, .int (nI a))] [.int (nI (Bool.toNat (Nat.testBit r a)))]
            refine fk_if_neB (b := (Nat.testBit r a)) d_Md_greatest_34 rfl (fun h34t => ?_) (fun h34f => ?_)
            · refine fk_iconst (v := nI 0) d_Md_greatest_54 (by decide +kernel) ?_
              refine L55 false ?_
              · unfold fg_more
                first | (rw [h13f, h26t]; rfl) | (rw [h13t, h34t]; rfl) | (rw [h13t, h34f, h47t]; rfl) | (rw [h13t, h34f, h47f]; rfl) | (rw [h13f, h26f, h34t]; rfl) | (rw [h13f, h26f, h34f, h47t]; rfl) | (rw [h13f, h26f, h34f, h47f]; rfl)
            · refine fk_aload_n 0 d_Md_greatest_37 rfl ?_
              refine fk_iload_n 1 d_Md_greatest_38 rfl ?_
              refine fk_iload_n 2 d_Md_greatest_39 rfl ?_
              refine fk_iconst (v := nI 1) d_Md_greatest_40 (by decide +kernel) ?_
              refine fk_iload_n 3 d_Md_greatest_41 rfl ?_
              refine fk_ishl (a := 1) (b := a) d_Md_greatest_42 (by omega) (by omega) ?_
              refine fk_top (show nI (1 * 2 ^ a) = nI (2 ^ a) by rw [Nat.one_mul]) ?_
              refine fk_ior (a := r) (b := (2 ^ a)) d_Md_greatest_43 ?_
              refine fk_callV (q0 := 0) (As := [.int (nI l), .int (nI (r ||| (2 ^ a)))]) (rest := []) (is := [0, 1]) (ir := []) (ip := [0, 1]) (wc := [(b0, .inr (6, [.int (nI mt), .ref b1, .ref b2, .ref b3, .ref b4, .ref b5, .ref b6, .ref b7, .ref b8, .ref b9, .int (nI mf), .ref b10, .ref b11, .ref b12, .int (nI my), .int (nI (Bool.toNat mw)), .ref b13, .ref b14, .ref b15])), fk_ai E b9 49 mtb]) (wr := []) (w2 := fun _ => [(b0, .inr (6, [.int (nI mt), .ref b1, .ref b2, .ref b3, .ref b4, .ref b5, .ref b6, .ref b7, .ref b8, .ref b9, .int (nI mf), .ref b10, .ref b11, .ref b12, .int (nI my), .int (nI (Bool.toNat mw)), .ref b13, .ref b14, .ref b15])), fk_ai E b9 49 mtb]) (cD_causal E b0 b1 b2 b3 b4 b5 b6 b7 b8 b9 b10 b11 b12 b13 b14 b15 mt mf my mw mtb fl l (r ||| (2 ^ a)) ht (by first | omega | assumption) (fb_or_lt hr g5)) d_Md_greatest_44 fz_Md_causal fw_600 rfl rfl fw_602 fw_p17 ⟨Nat.le_of_ble_eq_true rfl, Nat.le_of_ble_eq_true rfl⟩ rfl (Nat.le_of_ble_eq_true rfl) ⟨Nat.zero_le _, Nat.zero_le _⟩ ⟨rfl, rfl, rfl, rfl, by decide, fun _ => rfl, rfl⟩ (fun u hu44 => ?_)
              show fk_V E _ K (0, 0) [(b0, .inr (6, [.int (nI mt), .ref b1, .ref b2, .ref b3, .ref b4, .ref b5, .ref b6, .ref b7, .ref b8, .ref b9, .int (nI mf), .ref b10, .ref b11, .ref b12, .int (nI my), .int (nI (Bool.toNat mw)), .ref b13, .ref b14, .ref b15])), fk_ai E b9 49 mtb] 47 [(0, .ref b0), (1, .int (nI l)), (2, .int (nI r)), (3, .int (nI a))] [.int (nI (Bool.toNat (fg_C fl l (r ||| (2 ^ a)))))]
              refine fk_if_eqB (b := (fg_C fl l (r ||| (2 ^ a)))) d_Md_greatest_47 rfl (fun h47t => ?_) (fun h47f => ?_)
              · refine fk_iconst (v := nI 0) d_Md_greatest_54 (by decide +kernel) ?_
                refine L55 false ?_
                · unfold fg_more
                  first | (rw [h13f, h26t]; rfl) | (rw [h13t, h34t]; rfl) | (rw [h13t, h34f, h47t]; rfl) | (rw [h13t, h34f, h47f]; rfl) | (rw [h13f, h26f, h34t]; rfl) | (rw [h13f, h26f, h34f, h47t]; rfl) | (rw [h13f, h26f, h34f, h47f]; rfl)
              · refine fk_iconst (v := nI 1) d_Md_greatest_50 (by decide +kernel) ?_
                refine fk_goto d_Md_greatest_51 rfl ?_
                refine L55 true ?_
                · unfold fg_more
                  first | (rw [h13f, h26t]; rfl) | (rw [h13t, h34t]; rfl) | (rw [h13t, h34f, h47t]; rfl) | (rw [h13t, h34f, h47f]; rfl) | (rw [h13f, h26f, h34t]; rfl) | (rw [h13f, h26f, h34f, h47t]; rfl) | (rw [h13f, h26f, h34f, h47f]; rfl)
  refine L2 _ _ ?_ ?_ (Nat.lt_succ_self _)
  · first | omega | assumption | exact Nat.zero_le _
  · exact fs_lt_0
