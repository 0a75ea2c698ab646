theorem fr_ifor (x y : Bool) (v : Nat) : (if x = true then v else 0) ||| (if y = true then v else 0) = if (x || y) = true then v else 0 := by
  cases x <;> cases y <;> simp
theorem d_Md_loops_0 : decode prog_8_method_33_code 0 = .ok (.iconst 0, 1) := by decide +kernel
theorem d_Md_loops_1 : decode prog_8_method_33_code 1 = .ok (.istore_n 2, 1) := by decide +kernel
theorem d_Md_loops_2 : decode prog_8_method_33_code 2 = .ok (.iload_n 2, 1) := by decide +kernel
theorem d_Md_loops_3 : decode prog_8_method_33_code 3 = .ok (.bipush 7, 2) := by decide +kernel
theorem d_Md_loops_5 : decode prog_8_method_33_code 5 = .ok (.if_icmp .ge 130, 3) := by decide +kernel
theorem d_Md_loops_8 : decode prog_8_method_33_code 8 = .ok (.iconst 0, 1) := by decide +kernel
theorem d_Md_loops_9 : decode prog_8_method_33_code 9 = .ok (.istore_n 3, 1) := by decide +kernel
theorem d_Md_loops_10 : decode prog_8_method_33_code 10 = .ok (.iload_n 3, 1) := by decide +kernel
theorem d_Md_loops_11 : decode prog_8_method_33_code 11 = .ok (.bipush 7, 2) := by decide +kernel
theorem d_Md_loops_13 : decode prog_8_method_33_code 13 = .ok (.if_icmp .ge 116, 3) := by decide +kernel
theorem d_Md_loops_16 : decode prog_8_method_33_code 16 = .ok (.iconst 0, 1) := by decide +kernel
theorem d_Md_loops_17 : decode prog_8_method_33_code 17 = .ok (.istore 4, 2) := by decide +kernel
theorem d_Md_loops_19 : decode prog_8_method_33_code 19 = .ok (.iconst 0, 1) := by decide +kernel
theorem d_Md_loops_20 : decode prog_8_method_33_code 20 = .ok (.istore 5, 2) := by decide +kernel
theorem d_Md_loops_22 : decode prog_8_method_33_code 22 = .ok (.iconst 0, 1) := by decide +kernel
theorem d_Md_loops_23 : decode prog_8_method_33_code 23 = .ok (.istore 6, 2) := by decide +kernel
theorem d_Md_loops_25 : decode prog_8_method_33_code 25 = .ok (.iload 6, 2) := by decide +kernel
theorem d_Md_loops_27 : decode prog_8_method_33_code 27 = .ok (.bipush 14, 2) := by decide +kernel
theorem d_Md_loops_29 : decode prog_8_method_33_code 29 = .ok (.if_icmp .ge 77, 3) := by decide +kernel
theorem d_Md_loops_32 : decode prog_8_method_33_code 32 = .ok (.iload 4, 2) := by decide +kernel
theorem d_Md_loops_34 : decode prog_8_method_33_code 34 = .ok (.ifCond .ne 25, 3) := by decide +kernel
theorem d_Md_loops_37 : decode prog_8_method_33_code 37 = .ok (.aload_n 0, 1) := by decide +kernel
theorem d_Md_loops_38 : decode prog_8_method_33_code 38 = .ok (.iload_n 1, 1) := by decide +kernel
theorem d_Md_loops_39 : decode prog_8_method_33_code 39 = .ok (.iload 6, 2) := by decide +kernel
theorem d_Md_loops_41 : decode prog_8_method_33_code 41 = .ok (.iload_n 2, 1) := by decide +kernel
theorem d_Md_loops_42 : decode prog_8_method_33_code 42 = .ok (.invokevirtual 94, 3) := by decide +kernel
theorem d_Md_loops_45 : decode prog_8_method_33_code 45 = .ok (.ifCond .eq 18, 3) := by decide +kernel
theorem d_Md_loops_48 : decode prog_8_method_33_code 48 = .ok (.aload_n 0, 1) := by decide +kernel
theorem d_Md_loops_49 : decode prog_8_method_33_code 49 = .ok (.iload_n 1, 1) := by decide +kernel
theorem d_Md_loops_50 : decode prog_8_method_33_code 50 = .ok (.iload 6, 2) := by decide +kernel
theorem d_Md_loops_52 : decode prog_8_method_33_code 52 = .ok (.iload_n 3, 1) := by decide +kernel
theorem d_Md_loops_53 : decode prog_8_method_33_code 53 = .ok (.invokevirtual 90, 3) := by decide +kernel
theorem d_Md_loops_56 : decode prog_8_method_33_code 56 = .ok (.ifCond .eq 7, 3) := by decide +kernel
theorem d_Md_loops_59 : decode prog_8_method_33_code 59 = .ok (.iconst 1, 1) := by decide +kernel
theorem d_Md_loops_60 : decode prog_8_method_33_code 60 = .ok (.goto 4, 3) := by decide +kernel
theorem d_Md_loops_63 : decode prog_8_method_33_code 63 = .ok (.iconst 0, 1) := by decide +kernel
theorem d_Md_loops_64 : decode prog_8_method_33_code 64 = .ok (.istore 4, 2) := by decide +kernel
theorem d_Md_loops_66 : decode prog_8_method_33_code 66 = .ok (.iload 5, 2) := by decide +kernel
theorem d_Md_loops_68 : decode prog_8_method_33_code 68 = .ok (.ifCond .ne 25, 3) := by decide +kernel
theorem d_Md_loops_71 : decode prog_8_method_33_code 71 = .ok (.aload_n 0, 1) := by decide +kernel
theorem d_Md_loops_72 : decode prog_8_method_33_code 72 = .ok (.iload_n 1, 1) := by decide +kernel
theorem d_Md_loops_73 : decode prog_8_method_33_code 73 = .ok (.iload 6, 2) := by decide +kernel
theorem d_Md_loops_75 : decode prog_8_method_33_code 75 = .ok (.iload_n 3, 1) := by decide +kernel
theorem d_Md_loops_76 : decode prog_8_method_33_code 76 = .ok (.invokevirtual 94, 3) := by decide +kernel
theorem d_Md_loops_79 : decode prog_8_method_33_code 79 = .ok (.ifCond .eq 18, 3) := by decide +kernel
theorem d_Md_loops_82 : decode prog_8_method_33_code 82 = .ok (.aload_n 0, 1) := by decide +kernel
theorem d_Md_loops_83 : decode prog_8_method_33_code 83 = .ok (.iload_n 1, 1) := by decide +kernel
theorem d_Md_loops_84 : decode prog_8_method_33_code 84 = .ok (.iload 6, 2) := by decide +kernel
theorem d_Md_loops_86 : decode prog_8_method_33_code 86 = .ok (.iload_n 2, 1) := by decide +kernel
theorem d_Md_loops_87 : decode prog_8_method_33_code 87 = .ok (.invokevirtual 90, 3) := by decide +kernel
theorem d_Md_loops_90 : decode prog_8_method_33_code 90 = .ok (.ifCond .eq 7, 3) := by decide +kernel
theorem d_Md_loops_93 : decode prog_8_method_33_code 93 = .ok (.iconst 1, 1) := by decide +kernel
theorem d_Md_loops_94 : decode prog_8_method_33_code 94 = .ok (.goto 4, 3) := by decide +kernel
theorem d_Md_loops_97 : decode prog_8_method_33_code 97 = .ok (.iconst 0, 1) := by decide +kernel
theorem d_Md_loops_98 : decode prog_8_method_33_code 98 = .ok (.istore 5, 2) := by decide +kernel
theorem d_Md_loops_100 : decode prog_8_method_33_code 100 = .ok (.iinc 6 1, 3) := by decide +kernel
theorem d_Md_loops_103 : decode prog_8_method_33_code 103 = .ok (.goto (-78), 3) := by decide +kernel
theorem d_Md_loops_106 : decode prog_8_method_33_code 106 = .ok (.iload_n 2, 1) := by decide +kernel
theorem d_Md_loops_107 : decode prog_8_method_33_code 107 = .ok (.iload_n 3, 1) := by decide +kernel
theorem d_Md_loops_108 : decode prog_8_method_33_code 108 = .ok (.if_icmp .eq 15, 3) := by decide +kernel
theorem d_Md_loops_111 : decode prog_8_method_33_code 111 = .ok (.iload 4, 2) := by decide +kernel
theorem d_Md_loops_113 : decode prog_8_method_33_code 113 = .ok (.ifCond .eq 10, 3) := by decide +kernel
theorem d_Md_loops_116 : decode prog_8_method_33_code 116 = .ok (.iload 5, 2) := by decide +kernel
theorem d_Md_loops_118 : decode prog_8_method_33_code 118 = .ok (.ifCond .eq 5, 3) := by decide +kernel
theorem d_Md_loops_121 : decode prog_8_method_33_code 121 = .ok (.iconst 1, 1) := by decide +kernel
theorem d_Md_loops_122 : decode prog_8_method_33_code 122 = .ok (.ireturn, 1) := by decide +kernel
theorem d_Md_loops_123 : decode prog_8_method_33_code 123 = .ok (.iinc 3 1, 3) := by decide +kernel
theorem d_Md_loops_126 : decode prog_8_method_33_code 126 = .ok (.goto (-116), 3) := by decide +kernel
theorem d_Md_loops_129 : decode prog_8_method_33_code 129 = .ok (.iinc 2 1, 3) := by decide +kernel
theorem d_Md_loops_132 : decode prog_8_method_33_code 132 = .ok (.goto (-130), 3) := by decide +kernel
theorem d_Md_loops_135 : decode prog_8_method_33_code 135 = .ok (.iconst 0, 1) := by decide +kernel
theorem d_Md_loops_136 : decode prog_8_method_33_code 136 = .ok (.ireturn, 1) := by decide +kernel
set_option maxRecDepth 20000 in
set_option maxHeartbeats 4000000 in
theorem cD_loops (E : fk_E) (b0 : Nat) (b1 : Nat) (b2 : Nat) (b3 : Nat) (b4 : Nat) (b5 : Nat) (b6 : Nat) (b7 : Nat) (b8 : Nat) (b9 : Nat) (b10 : Nat) (b11 : Nat) (b12 : Nat) (b13 : Nat) (b14 : Nat) (b15 : Nat) (mt : Nat) (mf : Nat) (my : Nat) (mw : Bool) (mc : Nat → Nat) (mi : Nat → Nat) (mu : Nat → Nat) (mfi : Nat → Nat) (mla : Nat → Nat) (q : Nat) (hN : fr_N mc mi mu mfi mla) (hq : q < 2) : fk_C E fy_Md_loops prog_8_method_33_code 7 (some .boolean) 2 0 0 [.ref b0, .int (nI q)] [(b0, .inr (6, [.int (nI mt), .ref b1, .ref b2, .ref b3, .ref b4, .ref b5, .ref b6, .ref b7, .ref b8, .ref b9, .int (nI mf), .ref b10, .ref b11, .ref b12, .int (nI my), .int (nI (Bool.toNat mw)), .ref b13, .ref b14, .ref b15])), fk_ai E b3 2 mc, fk_ai E b4 28 mi, fk_ai E b5 28 mu, fk_ai E b6 2 mfi, fk_ai E b7 2 mla] (S := Unit) (fun _ => some (.int (nI (Bool.toNat (fr_lp (fr_O mc mu mfi q) (fr_I mc mi mla q)))))) (fun _ => True) (fun _ => [(b0, .inr (6, [.int (nI mt), .ref b1, .ref b2, .ref b3, .ref b4, .ref b5, .ref b6, .ref b7, .ref b8, .ref b9, .int (nI mf), .ref b10, .ref b11, .ref b12, .int (nI my), .int (nI (Bool.toNat mw)), .ref b13, .ref b14, .ref b15])), fk_ai E b3 2 mc, fk_ai E b4 28 mi, fk_ai E b5 28 mu, fk_ai E b6 2 mfi, fk_ai E b7 2 mla]) := by
  refine fk_enterZ (v := fun _ => fr_lp (fr_O mc mu mfi q) (fr_I mc mi mla q)) (by decide) (Nat.le_of_ble_eq_true rfl) (lv0 := [(0, .ref b0), (1, .int (nI q))]) rfl ?_
  intro K hini hret
  refine fk_iconst (v := nI 0) d_Md_loops_0 (by decide +kernel) ?_
  refine fk_istore_n (lv' := [(0, .ref b0), (1, .int (nI q)), (2, .int (nI 0))]) d_Md_loops_1 rfl (Nat.le_of_ble_eq_true rfl) [1, 2, 0] rfl ?_
  have L2 : ∀ (fuel : Nat) (a : Nat), (a ≤ 7) → (∀ j, j < a → (fun z8 => fs_any (fun z9 => decide (z8 ≠ z9) && (fr_th (fr_O mc mu mfi q) (fr_I mc mi mla q) z8 z9 && fr_th (fr_O mc mu mfi q) (fr_I mc mi mla q) z9 z8)) 7) j = false) → 7 - a < fuel → fk_V E (prog_8_method_33_code, fy_Md_loops.cls, 7, fk_rm 2 0 0) K (0, 0) [(b0, .inr (6, [.int (nI mt), .ref b1, .ref b2, .ref b3, .ref b4, .ref b5, .ref b6, .ref b7, .ref b8, .ref b9, .int (nI mf), .ref b10, .ref b11, .ref b12, .int (nI my), .int (nI (Bool.toNat mw)), .ref b13, .ref b14, .ref b15])), fk_ai E b3 2 mc, fk_ai E b4 28 mi, fk_ai E b5 28 mu, fk_ai E b6 2 mfi, fk_ai E b7 2 mla] 2 [(0, .ref b0), (1, .int (nI q)), (2, .int (nI a))] [] := by
    intro fuel
    induction fuel with
    | zero => intro a _ _ hm; exact absurd hm (Nat.not_lt_zero _)
    | succ fuel ih =>
      intro a h1 h2 hm2
      have ih2 := ih
      clear ih
      refine fk_iload_n 2 d_Md_loops_2 rfl ?_
      refine fk_bipush (v := nI 7) d_Md_loops_3 (by decide +kernel) ?_
      refine fk_icmp_ge (a := a) (b := 7) (by omega) (by omega) d_Md_loops_5 rfl (fun h5t => ?_) (fun h5f => ?_)
      · refine fk_iconst (v := nI 0) d_Md_loops_135 (by decide +kernel) ?_
        refine fk_top (fn_rf (b := fr_lp (fr_O mc mu mfi q) (fr_I mc mi mla q)) (fs_any_f.mpr (fun j hj => h2 j (by omega)))) ?_
        exact hret (0, 0) _ 136 _ () d_Md_loops_136 (trivial) (rfl)
      · refine fk_iconst (v := nI 0) d_Md_loops_8 (by decide +kernel) ?_
        refine fk_istore_n (lv' := [(0, .ref b0), (1, .int (nI q)), (2, .int (nI a)), (3, .int (nI 0))]) d_Md_loops_9 rfl (Nat.le_of_ble_eq_true rfl) [1, 2, 3, 0] rfl ?_
        have L10 : ∀ (fuel : Nat) (b : Nat), (b ≤ 7) → (∀ j, j < b → (fun z9 => decide (a ≠ z9) && (fr_th (fr_O mc mu mfi q) (fr_I mc mi mla q) a z9 && fr_th (fr_O mc mu mfi q) (fr_I mc mi mla q) z9 a)) j = false) → 7 - b < fuel → fk_V E (prog_8_method_33_code, fy_Md_loops.cls, 7, fk_rm 2 0 0) K (0, 0) [(b0, .inr (6, [.int (nI mt), .ref b1, .ref b2, .ref b3, .ref b4, .ref b5, .ref b6, .ref b7, .ref b8, .ref b9, .int (nI mf), .ref b10, .ref b11, .ref b12, .int (nI my), .int (nI (Bool.toNat mw)), .ref b13, .ref b14, .ref b15])), fk_ai E b3 2 mc, fk_ai E b4 28 mi, fk_ai E b5 28 mu, fk_ai E b6 2 mfi, fk_ai E b7 2 mla] 10 [(0, .ref b0), (1, .int (nI q)), (2, .int (nI a)), (3, .int (nI b))] [] := by
          intro fuel
          induction fuel with
          | zero => intro b _ _ hm; exact absurd hm (Nat.not_lt_zero _)
          | succ fuel ih =>
            intro b h3 h4 hm10
            have ih10 := ih
            clear ih
            refine fk_iload_n 3 d_Md_loops_10 rfl ?_
            refine fk_bipush (v := nI 7) d_Md_loops_11 (by decide +kernel) ?_
            refine fk_icmp_ge (a := b) (b := 7) (by omega) (by omega) d_Md_loops_13 rfl (fun h13t => ?_) (fun h13f => ?_)
            · refine fk_iinc (j := 2) (lv' := [(0, .ref b0), (1, .int (nI q)), (2, .int (nI (a + 1))), (3, .int (nI b))]) (a + 1) d_Md_loops_129 rfl (nI_1 a) (Nat.le_of_ble_eq_true rfl) [1, 2, 0, 3] rfl ?_
              refine fk_goto d_Md_loops_132 rfl ?_
              refine fk_lv (lv' := [(0, .ref b0), (1, .int (nI q)), (2, .int (nI (a + 1)))]) [0, 1, 2] rfl ?_
              refine ih2 _ ?_ ?_ ?_
              · first | omega | assumption | exact Nat.zero_le _
              · exact fs_lt_s (f := (fun z8 => fs_any (fun z9 => decide (z8 ≠ z9) && (fr_th (fr_O mc mu mfi q) (fr_I mc mi mla q) z8 z9 && fr_th (fr_O mc mu mfi q) (fr_I mc mi mla q) z9 z8)) 7)) h2 (fs_any_f.mpr (fun z hz => h4 z (by omega)))
              · omega
            · refine fk_iconst (v := nI 0) d_Md_loops_16 (by decide +kernel) ?_
              refine fk_istore (lv' := [(0, .ref b0), (1, .int (nI q)), (2, .int (nI a)), (3, .int (nI b)), (4, .int (nI 0))]) d_Md_loops_17 (Nat.le_of_ble_eq_true rfl) [1, 2, 3, 4, 0] rfl ?_
              refine fk_iconst (v := nI 0) d_Md_loops_19 (by decide +kernel) ?_
              refine fk_istore (lv' := [(0, .ref b0), (1, .int (nI q)), (2, .int (nI a)), (3, .int (nI b)), (4, .int (nI 0)), (5, .int (nI 0))]) d_Md_loops_20 (Nat.le_of_ble_eq_true rfl) [1, 2, 3, 4, 5, 0] rfl ?_
              refine fk_iconst (v := nI 0) d_Md_loops_22 (by decide +kernel) ?_
              refine fk_istore (lv' := [(0, .ref b0), (1, .int (nI q)), (2, .int (nI a)), (3, .int (nI b)), (4, .int (nI 0)), (5, .int (nI 0)), (6, .int (nI 0))]) d_Md_loops_23 (Nat.le_of_ble_eq_true rfl) [1, 2, 3, 4, 5, 6, 0] rfl ?_
              have L25 : ∀ (fuel : Nat) (th : Bool) (bk : Bool) (i : Nat), (i ≤ 14) → (th = fs_any (fun z => fs_tak (fr_I mc mi mla q) a (fr_cp z) && fs_tak (fr_O mc mu mfi q) b (fr_cp z)) i) → (bk = fs_any (fun z => fs_tak (fr_I mc mi mla q) b (fr_cp z) && fs_tak (fr_O mc mu mfi q) a (fr_cp z)) i) → 14 - i < fuel → fk_V E (prog_8_method_33_code, fy_Md_loops.cls, 7, fk_rm 2 0 0) K (0, 0) [(b0, .inr (6, [.int (nI mt), .ref b1, .ref b2, .ref b3, .ref b4, .ref b5, .ref b6, .ref b7, .ref b8, .ref b9, .int (nI mf), .ref b10, .ref b11, .ref b12, .int (nI my), .int (nI (Bool.toNat mw)), .ref b13, .ref b14, .ref b15])), fk_ai E b3 2 mc, fk_ai E b4 28 mi, fk_ai E b5 28 mu, fk_ai E b6 2 mfi, fk_ai E b7 2 mla] 25 [(0, .ref b0), (1, .int (nI q)), (2, .int (nI a)), (3, .int (nI b)), (4, .int (nI (Bool.toNat th))), (5, .int (nI (Bool.toNat bk))), (6, .int (nI i))] [] := by
                intro fuel
                induction fuel with
                | zero => intro th bk i _ _ _ hm; exact absurd hm (Nat.not_lt_zero _)
                | succ fuel ih =>
                  intro th bk i h5 h6 h7 hm25
                  have ih25 := ih
                  clear ih
                  refine fk_iload 6 d_Md_loops_25 rfl ?_
                  refine fk_bipush (v := nI 14) d_Md_loops_27 (by decide +kernel) ?_
                  refine fk_icmp_ge (a := i) (b := 14) (by omega) (by omega) d_Md_loops_29 rfl (fun h29t => ?_) (fun h29f => ?_)
                  · have e9 : i = 14 := by omega
                    rw [e9] at h6 h7
                    have g1 : th = fr_th (fr_O mc mu mfi q) (fr_I mc mi mla q) a b := h6
                    have g2 : bk = fr_th (fr_O mc mu mfi q) (fr_I mc mi mla q) b a := h7
                    refine fk_iload_n 2 d_Md_loops_106 rfl ?_
                    refine fk_iload_n 3 d_Md_loops_107 rfl ?_
                    refine fk_icmp_eq (a := a) (b := b) (by omega) (by omega) d_Md_loops_108 rfl (fun h108t => ?_) (fun h108f => ?_)
                    · refine fk_iinc (j := 3) (lv' := [(0, .ref b0), (1, .int (nI q)), (2, .int (nI a)), (3, .int (nI (b + 1))), (4, .int (nI (Bool.toNat th))), (5, .int (nI (Bool.toNat bk))), (6, .int (nI i))]) (b + 1) d_Md_loops_123 rfl (nI_1 b) (Nat.le_of_ble_eq_true rfl) [1, 2, 3, 0, 4, 5, 6] rfl ?_
                      refine fk_goto d_Md_loops_126 rfl ?_
                      refine fk_lv (lv' := [(0, .ref b0), (1, .int (nI q)), (2, .int (nI a)), (3, .int (nI (b + 1)))]) [0, 1, 2, 3] rfl ?_
                      refine ih10 _ ?_ ?_ ?_
                      · first | omega | assumption | exact Nat.zero_le _
                      · refine fs_lt_s (f := (fun z9 => decide (a ≠ z9) && (fr_th (fr_O mc mu mfi q) (fr_I mc mi mla q) a z9 && fr_th (fr_O mc mu mfi q) (fr_I mc mi mla q) z9 a))) h4 ?_
                        show (decide (a ≠ b) && (fr_th _ _ a b && fr_th _ _ b a)) = false
                        first | (rw [← g1, h113t]; simp; done) | (rw [← g2, h118t]; simp; done) | (simp [h108t]; done)
                      · omega
                    · refine fk_iload 4 d_Md_loops_111 rfl ?_
                      refine fk_if_eqB (b := th) d_Md_loops_113 rfl (fun h113t => ?_) (fun h113f => ?_)
                      · refine fk_iinc (j := 3) (lv' := [(0, .ref b0), (1, .int (nI q)), (2, .int (nI a)), (3, .int (nI (b + 1))), (4, .int (nI (Bool.toNat th))), (5, .int (nI (Bool.toNat bk))), (6, .int (nI i))]) (b + 1) d_Md_loops_123 rfl (nI_1 b) (Nat.le_of_ble_eq_true rfl) [1, 2, 3, 0, 4, 5, 6] rfl ?_
                        refine fk_goto d_Md_loops_126 rfl ?_
                        refine fk_lv (lv' := [(0, .ref b0), (1, .int (nI q)), (2, .int (nI a)), (3, .int (nI (b + 1)))]) [0, 1, 2, 3] rfl ?_
                        refine ih10 _ ?_ ?_ ?_
                        · first | omega | assumption | exact Nat.zero_le _
                        · refine fs_lt_s (f := (fun z9 => decide (a ≠ z9) && (fr_th (fr_O mc mu mfi q) (fr_I mc mi mla q) a z9 && fr_th (fr_O mc mu mfi q) (fr_I mc mi mla q) z9 a))) h4 ?_
                          show (decide (a ≠ b) && (fr_th _ _ a b && fr_th _ _ b a)) = false
                          first | (rw [← g1, h113t]; simp; done) | (rw [← g2, h118t]; simp; done) | (simp [h108t]; done)
                        · omega
                      · refine fk_iload 5 d_Md_loops_116 rfl ?_
                        refine fk_if_eqB (b := bk) d_Md_loops_118 rfl (fun h118t => ?_) (fun h118f => ?_)
                        · refine fk_iinc (j := 3) (lv' := [(0, .ref b0), (1, .int (nI q)), (2, .int (nI a)), (3, .int (nI (b + 1))), (4, .int (nI (Bool.toNat th))), (5, .int (nI (Bool.toNat bk))), (6, .int (nI i))]) (b + 1) d_Md_loops_123 rfl (nI_1 b) (Nat.le_of_ble_eq_true rfl) [1, 2, 3, 0, 4, 5, 6] rfl ?_
                          refine fk_goto d_Md_loops_126 rfl ?_
                          refine fk_lv (lv' := [(0, .ref b0), (1, .int (nI q)), (2, .int (nI a)), (3, .int (nI (b + 1)))]) [0, 1, 2, 3] rfl ?_
                          refine ih10 _ ?_ ?_ ?_
                          · first | omega | assumption | exact Nat.zero_le _
                          · refine fs_lt_s (f := (fun z9 => decide (a ≠ z9) && (fr_th (fr_O mc mu mfi q) (fr_I mc mi mla q) a z9 && fr_th (fr_O mc mu mfi q) (fr_I mc mi mla q) z9 a))) h4 ?_
                            show (decide (a ≠ b) && (fr_th _ _ a b && fr_th _ _ b a)) = false
                            first | (rw [← g1, h113t]; simp; done) | (rw [← g2, h118t]; simp; done) | (simp [h108t]; done)
                          · omega
                        · refine fk_iconst (v := nI 1) d_Md_loops_121 (by decide +kernel) ?_
                          refine fk_top (fn_rt (b := fr_lp (fr_O mc mu mfi q) (fr_I mc mi mla q)) (fs_any_t (j := a) (by omega) (fs_any_t (j := b) (by omega) (by show (decide (a ≠ b) && (fr_th _ _ a b && fr_th _ _ b a)) = true; rw [decide_eq_true (show a ≠ b from h108f), ← g1, ← g2, h113f, h118f]; rfl)))) ?_
                          exact hret (0, 0) _ 122 _ () d_Md_loops_122 (trivial) (rfl)
                  · have L64 : ∀ (t2 : Bool), (t2 = (th || (fun z => fs_tak (fr_I mc mi mla q) a (fr_cp z) && fs_tak (fr_O mc mu mfi q) b (fr_cp z)) i)) → fk_V E (prog_8_method_33_code, fy_Md_loops.cls, 7, fk_rm 2 0 0) K (0, 0) [(b0, .inr (6, [.int (nI mt), .ref b1, .ref b2, .ref b3, .ref b4, .ref b5, .ref b6, .ref b7, .ref b8, .ref b9, .int (nI mf), .ref b10, .ref b11, .ref b12, .int (nI my), .int (nI (Bool.toNat mw)), .ref b13, .ref b14, .ref b15])), fk_ai E b3 2 mc, fk_ai E b4 28 mi, fk_ai E b5 28 mu, fk_ai E b6 2 mfi, fk_ai E b7 2 mla] 64 [(0, .ref b0), (1, .int (nI q)), (2, .int (nI a)), (3, .int (nI b)), (4, .int (nI (Bool.toNat th))), (5, .int (nI (Bool.toNat bk))), (6, .int (nI i))] [.int (nI (Bool.toNat t2))] := by
                      intro t2 j1
                      refine fk_istore (lv' := [(0, .ref b0), (1, .int (nI q)), (2, .int (nI a)), (3, .int (nI b)), (4, .int (nI (Bool.toNat t2))), (5, .int (nI (Bool.toNat bk))), (6, .int (nI i))]) d_Md_loops_64 (Nat.le_of_ble_eq_true rfl) [1, 2, 3, 4, 0, 5, 6] rfl ?_
                      have L98 : ∀ (t3 : Bool), (t3 = (bk || (fun z => fs_tak (fr_I mc mi mla q) b (fr_cp z) && fs_tak (fr_O mc mu mfi q) a (fr_cp z)) i)) → fk_V E (prog_8_method_33_code, fy_Md_loops.cls, 7, fk_rm 2 0 0) K (0, 0) [(b0, .inr (6, [.int (nI mt), .ref b1, .ref b2, .ref b3, .ref b4, .ref b5, .ref b6, .ref b7, .ref b8, .ref b9, .int (nI mf), .ref b10, .ref b11, .ref b12, .int (nI my), .int (nI (Bool.toNat mw)), .ref b13, .ref b14, .ref b15])), fk_ai E b3 2 mc, fk_ai E b4 28 mi, fk_ai E b5 28 mu, fk_ai E b6 2 mfi, fk_ai E b7 2 mla] 98 [(0, .ref b0), (1, .int (nI q)), (2, .int (nI a)), (3, .int (nI b)), (4, .int (nI (Bool.toNat t2))), (5, .int (nI (Bool.toNat bk))), (6, .int (nI i))] [.int (nI (Bool.toNat t3))] := by
                        intro t3 j2
                        refine fk_istore (lv' := [(0, .ref b0), (1, .int (nI q)), (2, .int (nI a)), (3, .int (nI b)), (4, .int (nI (Bool.toNat t2))), (5, .int (nI (Bool.toNat t3))), (6, .int (nI i))]) d_Md_loops_98 (Nat.le_of_ble_eq_true rfl) [1, 2, 3, 4, 5, 0, 6] rfl ?_
                        refine fk_iinc (j := 6) (lv' := [(0, .ref b0), (1, .int (nI q)), (2, .int (nI a)), (3, .int (nI b)), (4, .int (nI (Bool.toNat t2))), (5, .int (nI (Bool.toNat t3))), (6, .int (nI (i + 1)))]) (i + 1) d_Md_loops_100 rfl (nI_1 i) (Nat.le_of_ble_eq_true rfl) [1, 2, 3, 4, 5, 6, 0] rfl ?_
                        refine fk_goto d_Md_loops_103 rfl ?_
                        refine ih25 _ _ _ ?_ ?_ ?_ ?_
                        · first | omega | assumption | exact Nat.zero_le _
                        · rw [j1, h6]
                          rfl
                        · rw [j2, h7]
                          rfl
                        · omega
                      refine fk_iload 5 d_Md_loops_66 rfl ?_
                      refine fk_if_neB (b := bk) d_Md_loops_68 rfl (fun h68t => ?_) (fun h68f => ?_)
                      · refine fk_iconst (v := nI 1) d_Md_loops_93 (by decide +kernel) ?_
                        refine fk_goto d_Md_loops_94 rfl ?_
                        refine L98 true ?_
                        · show _ = (bk || (_ && _))
                          first | rw [h68t, Bool.true_or] | rw [h68f, h79f, h90f, Bool.and_self, Bool.or_true] | rw [h68f, h79t, Bool.false_and, Bool.or_self] | rw [h68f, h79f, h90t, Bool.and_false, Bool.or_self]
                      · refine fk_aload_n 0 d_Md_loops_71 rfl ?_
                        refine fk_iload_n 1 d_Md_loops_72 rfl ?_
                        refine fk_iload 6 d_Md_loops_73 rfl ?_
                        refine fk_iload_n 3 d_Md_loops_75 rfl ?_
                        refine fk_callV (q0 := 0) (As := [.int (nI q), .int (nI i), .int (nI b)]) (rest := []) (is := [0, 1, 2, 5]) (ir := [3, 4]) (ip := [2, 3, 4, 0, 1, 5]) (wc := [(b0, .inr (6, [.int (nI mt), .ref b1, .ref b2, .ref b3, .ref b4, .ref b5, .ref b6, .ref b7, .ref b8, .ref b9, .int (nI mf), .ref b10, .ref b11, .ref b12, .int (nI my), .int (nI (Bool.toNat mw)), .ref b13, .ref b14, .ref b15])), fk_ai E b3 2 mc, fk_ai E b4 28 mi, fk_ai E b7 2 mla]) (wr := [fk_ai E b5 28 mu, fk_ai E b6 2 mfi]) (w2 := fun _ => [(b0, .inr (6, [.int (nI mt), .ref b1, .ref b2, .ref b3, .ref b4, .ref b5, .ref b6, .ref b7, .ref b8, .ref b9, .int (nI mf), .ref b10, .ref b11, .ref b12, .int (nI my), .int (nI (Bool.toNat mw)), .ref b13, .ref b14, .ref b15])), fk_ai E b3 2 mc, fk_ai E b4 28 mi, fk_ai E b5 28 mu, fk_ai E b6 2 mfi, fk_ai E b7 2 mla]) (cD_gives E b0 b1 b2 b3 b4 b5 b6 b7 b8 b9 b10 b11 b12 b13 b14 b15 mt mf my mw mc mi mu mfi mla q i b (by first | omega | assumption) (by first | omega | assumption) (by first | omega | assumption) (by first | omega | assumption)) d_Md_loops_76 fz_Md_gives fw_662 rfl rfl fw_664 fw_p24 ⟨Nat.le_of_ble_eq_true rfl, Nat.le_of_ble_eq_true rfl⟩ rfl (Nat.le_of_ble_eq_true rfl) ⟨Nat.zero_le _, Nat.zero_le _⟩ ⟨rfl, rfl, rfl, rfl, by decide, fun _ => rfl, rfl⟩ (fun u hu76 => ?_)
                        show fk_V E _ K (0, 0) [(b0, .inr (6, [.int (nI mt), .ref b1, .ref b2, .ref b3, .ref b4, .ref b5, .ref b6, .ref b7, .ref b8, .ref b9, .int (nI mf), .ref b10, .ref b11, .ref b12, .int (nI my), .int (nI (Bool.toNat mw)), .ref b13, .ref b14, .ref b15])), fk_ai E b3 2 mc, fk_ai E b4 28 mi, fk_ai E b5 28 mu, fk_ai E b6 2 mfi, fk_ai E b7 2 mla] 79 [(0, .ref b0), (1, .int (nI q)), (2, .int (nI a)), (3, .int (nI b)), (4, .int (nI (Bool.toNat t2))), (5, .int (nI (Bool.toNat bk))), (6, .int (nI i))] [.int (nI (Bool.toNat (fs_tak (fr_I mc mi mla q) b (fr_cp i))))]
                        refine fk_if_eqB (b := (fs_tak (fr_I mc mi mla q) b (fr_cp i))) d_Md_loops_79 rfl (fun h79t => ?_) (fun h79f => ?_)
                        · refine fk_iconst (v := nI 0) d_Md_loops_97 (by decide +kernel) ?_
                          refine L98 false ?_
                          · show _ = (bk || (_ && _))
                            first | rw [h68t, Bool.true_or] | rw [h68f, h79f, h90f, Bool.and_self, Bool.or_true] | rw [h68f, h79t, Bool.false_and, Bool.or_self] | rw [h68f, h79f, h90t, Bool.and_false, Bool.or_self]
                        · refine fk_aload_n 0 d_Md_loops_82 rfl ?_
                          refine fk_iload_n 1 d_Md_loops_83 rfl ?_
                          refine fk_iload 6 d_Md_loops_84 rfl ?_
                          refine fk_iload_n 2 d_Md_loops_86 rfl ?_
                          refine fk_callV (q0 := 0) (As := [.int (nI q), .int (nI i), .int (nI a)]) (rest := []) (is := [0, 1, 3, 4]) (ir := [2, 5]) (ip := [2, 3, 0, 4, 5, 1]) (wc := [(b0, .inr (6, [.int (nI mt), .ref b1, .ref b2, .ref b3, .ref b4, .ref b5, .ref b6, .ref b7, .ref b8, .ref b9, .int (nI mf), .ref b10, .ref b11, .ref b12, .int (nI my), .int (nI (Bool.toNat mw)), .ref b13, .ref b14, .ref b15])), fk_ai E b3 2 mc, fk_ai E b5 28 mu, fk_ai E b6 2 mfi]) (wr := [fk_ai E b4 28 mi, fk_ai E b7 2 mla]) (w2 := fun _ => [(b0, .inr (6, [.int (nI mt), .ref b1, .ref b2, .ref b3, .ref b4, .ref b5, .ref b6, .ref b7, .ref b8, .ref b9, .int (nI mf), .ref b10, .ref b11, .ref b12, .int (nI my), .int (nI (Bool.toNat mw)), .ref b13, .ref b14, .ref b15])), fk_ai E b3 2 mc, fk_ai E b4 28 mi, fk_ai E b5 28 mu, fk_ai E b6 2 mfi, fk_ai E b7 2 mla]) (cD_takes E b0 b1 b2 b3 b4 b5 b6 b7 b8 b9 b10 b11 b12 b13 b14 b15 mt mf my mw mc mi mu mfi mla q i a (by first | omega | assumption) (by first | omega | assumption) (by first | omega | assumption) (by first | omega | assumption)) d_Md_loops_87 fz_Md_takes fw_654 rfl rfl fw_656 fw_p22 ⟨Nat.le_of_ble_eq_true rfl, Nat.le_of_ble_eq_true rfl⟩ rfl (Nat.le_of_ble_eq_true rfl) ⟨Nat.zero_le _, Nat.zero_le _⟩ ⟨rfl, rfl, rfl, rfl, by decide, fun _ => rfl, rfl⟩ (fun u hu87 => ?_)
                          show fk_V E _ K (0, 0) [(b0, .inr (6, [.int (nI mt), .ref b1, .ref b2, .ref b3, .ref b4, .ref b5, .ref b6, .ref b7, .ref b8, .ref b9, .int (nI mf), .ref b10, .ref b11, .ref b12, .int (nI my), .int (nI (Bool.toNat mw)), .ref b13, .ref b14, .ref b15])), fk_ai E b3 2 mc, fk_ai E b4 28 mi, fk_ai E b5 28 mu, fk_ai E b6 2 mfi, fk_ai E b7 2 mla] 90 [(0, .ref b0), (1, .int (nI q)), (2, .int (nI a)), (3, .int (nI b)), (4, .int (nI (Bool.toNat t2))), (5, .int (nI (Bool.toNat bk))), (6, .int (nI i))] [.int (nI (Bool.toNat (fs_tak (fr_O mc mu mfi q) a (fr_cp i))))]
                          refine fk_if_eqB (b := (fs_tak (fr_O mc mu mfi q) a (fr_cp i))) d_Md_loops_90 rfl (fun h90t => ?_) (fun h90f => ?_)
                          · refine fk_iconst (v := nI 0) d_Md_loops_97 (by decide +kernel) ?_
                            refine L98 false ?_
                            · show _ = (bk || (_ && _))
                              first | rw [h68t, Bool.true_or] | rw [h68f, h79f, h90f, Bool.and_self, Bool.or_true] | rw [h68f, h79t, Bool.false_and, Bool.or_self] | rw [h68f, h79f, h90t, Bool.and_false, Bool.or_self]
                          · refine fk_iconst (v := nI 1) d_Md_loops_93 (by decide +kernel) ?_
                            refine fk_goto d_Md_loops_94 rfl ?_
                            refine L98 true ?_
                            · show _ = (bk || (_ && _))
                              first | rw [h68t, Bool.true_or] | rw [h68f, h79f, h90f, Bool.and_self, Bool.or_true] | rw [h68f, h79t, Bool.false_and, Bool.or_self] | rw [h68f, h79f, h90t, Bool.and_false, Bool.or_self]
                    refine fk_iload 4 d_Md_loops_32 rfl ?_
                    refine fk_if_neB (b := th) d_Md_loops_34 rfl (fun h34t => ?_) (fun h34f => ?_)
                    · refine fk_iconst (v := nI 1) d_Md_loops_59 (by decide +kernel) ?_
                      refine fk_goto d_Md_loops_60 rfl ?_
                      refine L64 true ?_
                      · show _ = (th || (_ && _))
                        first | rw [h34t, Bool.true_or] | rw [h34f, h45f, h56f, Bool.and_self, Bool.or_true] | rw [h34f, h45t, Bool.false_and, Bool.or_self] | rw [h34f, h45f, h56t, Bool.and_false, Bool.or_self]
                    · refine fk_aload_n 0 d_Md_loops_37 rfl ?_
                      refine fk_iload_n 1 d_Md_loops_38 rfl ?_
                      refine fk_iload 6 d_Md_loops_39 rfl ?_
                      refine fk_iload_n 2 d_Md_loops_41 rfl ?_
                      refine fk_callV (q0 := 0) (As := [.int (nI q), .int (nI i), .int (nI a)]) (rest := []) (is := [0, 1, 2, 5]) (ir := [3, 4]) (ip := [2, 3, 4, 0, 1, 5]) (wc := [(b0, .inr (6, [.int (nI mt), .ref b1, .ref b2, .ref b3, .ref b4, .ref b5, .ref b6, .ref b7, .ref b8, .ref b9, .int (nI mf), .ref b10, .ref b11, .ref b12, .int (nI my), .int (nI (Bool.toNat mw)), .ref b13, .ref b14, .ref b15])), fk_ai E b3 2 mc, fk_ai E b4 28 mi, fk_ai E b7 2 mla]) (wr := [fk_ai E b5 28 mu, fk_ai E b6 2 mfi]) (w2 := fun _ => [(b0, .inr (6, [.int (nI mt), .ref b1, .ref b2, .ref b3, .ref b4, .ref b5, .ref b6, .ref b7, .ref b8, .ref b9, .int (nI mf), .ref b10, .ref b11, .ref b12, .int (nI my), .int (nI (Bool.toNat mw)), .ref b13, .ref b14, .ref b15])), fk_ai E b3 2 mc, fk_ai E b4 28 mi, fk_ai E b5 28 mu, fk_ai E b6 2 mfi, fk_ai E b7 2 mla]) (cD_gives E b0 b1 b2 b3 b4 b5 b6 b7 b8 b9 b10 b11 b12 b13 b14 b15 mt mf my mw mc mi mu mfi mla q i a (by first | omega | assumption) (by first | omega | assumption) (by first | omega | assumption) (by first | omega | assumption)) d_Md_loops_42 fz_Md_gives fw_662 rfl rfl fw_664 fw_p24 ⟨Nat.le_of_ble_eq_true rfl, Nat.le_of_ble_eq_true rfl⟩ rfl (Nat.le_of_ble_eq_true rfl) ⟨Nat.zero_le _, Nat.zero_le _⟩ ⟨rfl, rfl, rfl, rfl, by decide, fun _ => rfl, rfl⟩ (fun u hu42 => ?_)
                      show fk_V E _ K (0, 0) [(b0, .inr (6, [.int (nI mt), .ref b1, .ref b2, .ref b3, .ref b4, .ref b5, .ref b6, .ref b7, .ref b8, .ref b9, .int (nI mf), .ref b10, .ref b11, .ref b12, .int (nI my), .int (nI (Bool.toNat mw)), .ref b13, .ref b14, .ref b15])), fk_ai E b3 2 mc, fk_ai E b4 28 mi, fk_ai E b5 28 mu, fk_ai E b6 2 mfi, fk_ai E b7 2 mla] 45 [(0, .ref b0), (1, .int (nI q)), (2, .int (nI a)), (3, .int (nI b)), (4, .int (nI (Bool.toNat th))), (5, .int (nI (Bool.toNat bk))), (6, .int (nI i))] [.int (nI (Bool.toNat (fs_tak (fr_I mc mi mla q) a (fr_cp i))))]
                      refine fk_if_eqB (b := (fs_tak (fr_I mc mi mla q) a (fr_cp i))) d_Md_loops_45 rfl (fun h45t => ?_) (fun h45f => ?_)
                      · refine fk_iconst (v := nI 0) d_Md_loops_63 (by decide +kernel) ?_
                        refine L64 false ?_
                        · show _ = (th || (_ && _))
                          first | rw [h34t, Bool.true_or] | rw [h34f, h45f, h56f, Bool.and_self, Bool.or_true] | rw [h34f, h45t, Bool.false_and, Bool.or_self] | rw [h34f, h45f, h56t, Bool.and_false, Bool.or_self]
                      · refine fk_aload_n 0 d_Md_loops_48 rfl ?_
                        refine fk_iload_n 1 d_Md_loops_49 rfl ?_
                        refine fk_iload 6 d_Md_loops_50 rfl ?_
                        refine fk_iload_n 3 d_Md_loops_52 rfl ?_
                        refine fk_callV (q0 := 0) (As := [.int (nI q), .int (nI i), .int (nI b)]) (rest := []) (is := [0, 1, 3, 4]) (ir := [2, 5]) (ip := [2, 3, 0, 4, 5, 1]) (wc := [(b0, .inr (6, [.int (nI mt), .ref b1, .ref b2, .ref b3, .ref b4, .ref b5, .ref b6, .ref b7, .ref b8, .ref b9, .int (nI mf), .ref b10, .ref b11, .ref b12, .int (nI my), .int (nI (Bool.toNat mw)), .ref b13, .ref b14, .ref b15])), fk_ai E b3 2 mc, fk_ai E b5 28 mu, fk_ai E b6 2 mfi]) (wr := [fk_ai E b4 28 mi, fk_ai E b7 2 mla]) (w2 := fun _ => [(b0, .inr (6, [.int (nI mt), .ref b1, .ref b2, .ref b3, .ref b4, .ref b5, .ref b6, .ref b7, .ref b8, .ref b9, .int (nI mf), .ref b10, .ref b11, .ref b12, .int (nI my), .int (nI (Bool.toNat mw)), .ref b13, .ref b14, .ref b15])), fk_ai E b3 2 mc, fk_ai E b4 28 mi, fk_ai E b5 28 mu, fk_ai E b6 2 mfi, fk_ai E b7 2 mla]) (cD_takes E b0 b1 b2 b3 b4 b5 b6 b7 b8 b9 b10 b11 b12 b13 b14 b15 mt mf my mw mc mi mu mfi mla q i b (by first | omega | assumption) (by first | omega | assumption) (by first | omega | assumption) (by first | omega | assumption)) d_Md_loops_53 fz_Md_takes fw_654 rfl rfl fw_656 fw_p22 ⟨Nat.le_of_ble_eq_true rfl, Nat.le_of_ble_eq_true rfl⟩ rfl (Nat.le_of_ble_eq_true rfl) ⟨Nat.zero_le _, Nat.zero_le _⟩ ⟨rfl, rfl, rfl, rfl, by decide, fun _ => rfl, rfl⟩ (fun u hu53 => ?_)
                        show fk_V E _ K (0, 0) [(b0, .inr (6, [.int (nI mt), .ref b1, .ref b2, .ref b3, .ref b4, .ref b5, .ref b6, .ref b7, .ref b8, .ref b9, .int (nI mf), .ref b10, .ref b11, .ref b12, .int (nI my), .int (nI (Bool.toNat mw)), .ref b13, .ref b14, .ref b15])), fk_ai E b3 2 mc, fk_ai E b4 28 mi, fk_ai E b5 28 mu, fk_ai E b6 2 mfi, fk_ai E b7 2 mla] 56 [(0, .ref b0), (1, .int (nI q)), (2, .int (nI a)), (3, .int (nI b)), (4, .int (nI (Bool.toNat th))), (5, .int (nI (Bool.toNat bk))), (6, .int (nI i))] [.int (nI (Bool.toNat (fs_tak (fr_O mc mu mfi q) b (fr_cp i))))]
                        refine fk_if_eqB (b := (fs_tak (fr_O mc mu mfi q) b (fr_cp i))) d_Md_loops_56 rfl (fun h56t => ?_) (fun h56f => ?_)
                        · refine fk_iconst (v := nI 0) d_Md_loops_63 (by decide +kernel) ?_
                          refine L64 false ?_
                          · show _ = (th || (_ && _))
                            first | rw [h34t, Bool.true_or] | rw [h34f, h45f, h56f, Bool.and_self, Bool.or_true] | rw [h34f, h45t, Bool.false_and, Bool.or_self] | rw [h34f, h45f, h56t, Bool.and_false, Bool.or_self]
                        · refine fk_iconst (v := nI 1) d_Md_loops_59 (by decide +kernel) ?_
                          refine fk_goto d_Md_loops_60 rfl ?_
                          refine L64 true ?_
                          · show _ = (th || (_ && _))
                            first | rw [h34t, Bool.true_or] | rw [h34f, h45f, h56f, Bool.and_self, Bool.or_true] | rw [h34f, h45t, Bool.false_and, Bool.or_self] | rw [h34f, h45f, h56t, Bool.and_false, Bool.or_self]
              refine L25 _ false false _ ?_ ?_ ?_ (Nat.lt_succ_self _)
              · first | omega | assumption | exact Nat.zero_le _
              · rfl
              · rfl
        refine L10 _ _ ?_ ?_ (Nat.lt_succ_self _)
        · first | omega | assumption | exact Nat.zero_le _
        · exact fs_lt_0
  refine L2 _ _ ?_ ?_ (Nat.lt_succ_self _)
  · first | omega | assumption | exact Nat.zero_le _
  · exact fs_lt_0
theorem d_Md_mixed_0 : decode prog_8_method_34_code 0 = .ok (.iconst 0, 1) := by decide +kernel
theorem d_Md_mixed_1 : decode prog_8_method_34_code 1 = .ok (.istore_n 2, 1) := by decide +kernel
theorem d_Md_mixed_2 : decode prog_8_method_34_code 2 = .ok (.iload_n 2, 1) := by decide +kernel
theorem d_Md_mixed_3 : decode prog_8_method_34_code 3 = .ok (.bipush 15, 2) := by decide +kernel
theorem d_Md_mixed_5 : decode prog_8_method_34_code 5 = .ok (.if_icmp .ge 138, 3) := by decide +kernel
theorem d_Md_mixed_8 : decode prog_8_method_34_code 8 = .ok (.iconst 0, 1) := by decide +kernel
theorem d_Md_mixed_9 : decode prog_8_method_34_code 9 = .ok (.istore_n 3, 1) := by decide +kernel
theorem d_Md_mixed_10 : decode prog_8_method_34_code 10 = .ok (.iconst 0, 1) := by decide +kernel
theorem d_Md_mixed_11 : decode prog_8_method_34_code 11 = .ok (.istore 4, 2) := by decide +kernel
theorem d_Md_mixed_13 : decode prog_8_method_34_code 13 = .ok (.iconst 0, 1) := by decide +kernel
theorem d_Md_mixed_14 : decode prog_8_method_34_code 14 = .ok (.istore 5, 2) := by decide +kernel
theorem d_Md_mixed_16 : decode prog_8_method_34_code 16 = .ok (.iconst 0, 1) := by decide +kernel
theorem d_Md_mixed_17 : decode prog_8_method_34_code 17 = .ok (.istore 6, 2) := by decide +kernel
theorem d_Md_mixed_19 : decode prog_8_method_34_code 19 = .ok (.iload 6, 2) := by decide +kernel
theorem d_Md_mixed_21 : decode prog_8_method_34_code 21 = .ok (.bipush 7, 2) := by decide +kernel
theorem d_Md_mixed_23 : decode prog_8_method_34_code 23 = .ok (.if_icmp .ge 99, 3) := by decide +kernel
theorem d_Md_mixed_26 : decode prog_8_method_34_code 26 = .ok (.iload_n 3, 1) := by decide +kernel
theorem d_Md_mixed_27 : decode prog_8_method_34_code 27 = .ok (.aload_n 0, 1) := by decide +kernel
theorem d_Md_mixed_28 : decode prog_8_method_34_code 28 = .ok (.iload_n 1, 1) := by decide +kernel
theorem d_Md_mixed_29 : decode prog_8_method_34_code 29 = .ok (.iload_n 2, 1) := by decide +kernel
theorem d_Md_mixed_30 : decode prog_8_method_34_code 30 = .ok (.iload 6, 2) := by decide +kernel
theorem d_Md_mixed_32 : decode prog_8_method_34_code 32 = .ok (.invokevirtual 90, 3) := by decide +kernel
theorem d_Md_mixed_35 : decode prog_8_method_34_code 35 = .ok (.ifCond .eq 10, 3) := by decide +kernel
theorem d_Md_mixed_38 : decode prog_8_method_34_code 38 = .ok (.iconst 1, 1) := by decide +kernel
theorem d_Md_mixed_39 : decode prog_8_method_34_code 39 = .ok (.iload 6, 2) := by decide +kernel
theorem d_Md_mixed_41 : decode prog_8_method_34_code 41 = .ok (.ishl, 1) := by decide +kernel
theorem d_Md_mixed_42 : decode prog_8_method_34_code 42 = .ok (.goto 4, 3) := by decide +kernel
theorem d_Md_mixed_45 : decode prog_8_method_34_code 45 = .ok (.iconst 0, 1) := by decide +kernel
theorem d_Md_mixed_46 : decode prog_8_method_34_code 46 = .ok (.ior, 1) := by decide +kernel
theorem d_Md_mixed_47 : decode prog_8_method_34_code 47 = .ok (.istore_n 3, 1) := by decide +kernel
theorem d_Md_mixed_48 : decode prog_8_method_34_code 48 = .ok (.iload 5, 2) := by decide +kernel
theorem d_Md_mixed_50 : decode prog_8_method_34_code 50 = .ok (.aload_n 0, 1) := by decide +kernel
theorem d_Md_mixed_51 : decode prog_8_method_34_code 51 = .ok (.iload_n 1, 1) := by decide +kernel
theorem d_Md_mixed_52 : decode prog_8_method_34_code 52 = .ok (.iload_n 2, 1) := by decide +kernel
theorem d_Md_mixed_53 : decode prog_8_method_34_code 53 = .ok (.iload 6, 2) := by decide +kernel
theorem d_Md_mixed_55 : decode prog_8_method_34_code 55 = .ok (.invokevirtual 90, 3) := by decide +kernel
theorem d_Md_mixed_58 : decode prog_8_method_34_code 58 = .ok (.ifCond .eq 7, 3) := by decide +kernel
theorem d_Md_mixed_61 : decode prog_8_method_34_code 61 = .ok (.iconst 1, 1) := by decide +kernel
theorem d_Md_mixed_62 : decode prog_8_method_34_code 62 = .ok (.goto 4, 3) := by decide +kernel
theorem d_Md_mixed_65 : decode prog_8_method_34_code 65 = .ok (.iconst 0, 1) := by decide +kernel
theorem d_Md_mixed_66 : decode prog_8_method_34_code 66 = .ok (.iadd, 1) := by decide +kernel
theorem d_Md_mixed_67 : decode prog_8_method_34_code 67 = .ok (.istore 5, 2) := by decide +kernel
theorem d_Md_mixed_69 : decode prog_8_method_34_code 69 = .ok (.iconst 0, 1) := by decide +kernel
theorem d_Md_mixed_70 : decode prog_8_method_34_code 70 = .ok (.istore 7, 2) := by decide +kernel
theorem d_Md_mixed_72 : decode prog_8_method_34_code 72 = .ok (.iload 7, 2) := by decide +kernel
theorem d_Md_mixed_74 : decode prog_8_method_34_code 74 = .ok (.bipush 15, 2) := by decide +kernel
theorem d_Md_mixed_76 : decode prog_8_method_34_code 76 = .ok (.if_icmp .ge 40, 3) := by decide +kernel
theorem d_Md_mixed_79 : decode prog_8_method_34_code 79 = .ok (.iload 4, 2) := by decide +kernel
theorem d_Md_mixed_81 : decode prog_8_method_34_code 81 = .ok (.iload 7, 2) := by decide +kernel
theorem d_Md_mixed_83 : decode prog_8_method_34_code 83 = .ok (.iload_n 2, 1) := by decide +kernel
theorem d_Md_mixed_84 : decode prog_8_method_34_code 84 = .ok (.if_icmp .eq 22, 3) := by decide +kernel
theorem d_Md_mixed_87 : decode prog_8_method_34_code 87 = .ok (.aload_n 0, 1) := by decide +kernel
theorem d_Md_mixed_88 : decode prog_8_method_34_code 88 = .ok (.iload_n 1, 1) := by decide +kernel
theorem d_Md_mixed_89 : decode prog_8_method_34_code 89 = .ok (.iload 7, 2) := by decide +kernel
theorem d_Md_mixed_91 : decode prog_8_method_34_code 91 = .ok (.iload 6, 2) := by decide +kernel
theorem d_Md_mixed_93 : decode prog_8_method_34_code 93 = .ok (.invokevirtual 90, 3) := by decide +kernel
theorem d_Md_mixed_96 : decode prog_8_method_34_code 96 = .ok (.ifCond .eq 10, 3) := by decide +kernel
theorem d_Md_mixed_99 : decode prog_8_method_34_code 99 = .ok (.iconst 1, 1) := by decide +kernel
theorem d_Md_mixed_100 : decode prog_8_method_34_code 100 = .ok (.iload 6, 2) := by decide +kernel
theorem d_Md_mixed_102 : decode prog_8_method_34_code 102 = .ok (.ishl, 1) := by decide +kernel
theorem d_Md_mixed_103 : decode prog_8_method_34_code 103 = .ok (.goto 4, 3) := by decide +kernel
theorem d_Md_mixed_106 : decode prog_8_method_34_code 106 = .ok (.iconst 0, 1) := by decide +kernel
theorem d_Md_mixed_107 : decode prog_8_method_34_code 107 = .ok (.ior, 1) := by decide +kernel
theorem d_Md_mixed_108 : decode prog_8_method_34_code 108 = .ok (.istore 4, 2) := by decide +kernel
theorem d_Md_mixed_110 : decode prog_8_method_34_code 110 = .ok (.iinc 7 1, 3) := by decide +kernel
theorem d_Md_mixed_113 : decode prog_8_method_34_code 113 = .ok (.goto (-41), 3) := by decide +kernel
theorem d_Md_mixed_116 : decode prog_8_method_34_code 116 = .ok (.iinc 6 1, 3) := by decide +kernel
theorem d_Md_mixed_119 : decode prog_8_method_34_code 119 = .ok (.goto (-100), 3) := by decide +kernel
theorem d_Md_mixed_122 : decode prog_8_method_34_code 122 = .ok (.iload 5, 2) := by decide +kernel
theorem d_Md_mixed_124 : decode prog_8_method_34_code 124 = .ok (.iconst 1, 1) := by decide +kernel
theorem d_Md_mixed_125 : decode prog_8_method_34_code 125 = .ok (.if_icmp .le 12, 3) := by decide +kernel
theorem d_Md_mixed_128 : decode prog_8_method_34_code 128 = .ok (.iload_n 3, 1) := by decide +kernel
theorem d_Md_mixed_129 : decode prog_8_method_34_code 129 = .ok (.iload 4, 2) := by decide +kernel
theorem d_Md_mixed_131 : decode prog_8_method_34_code 131 = .ok (.iand, 1) := by decide +kernel
theorem d_Md_mixed_132 : decode prog_8_method_34_code 132 = .ok (.ifCond .eq 5, 3) := by decide +kernel
theorem d_Md_mixed_135 : decode prog_8_method_34_code 135 = .ok (.iconst 1, 1) := by decide +kernel
theorem d_Md_mixed_136 : decode prog_8_method_34_code 136 = .ok (.ireturn, 1) := by decide +kernel
theorem d_Md_mixed_137 : decode prog_8_method_34_code 137 = .ok (.iinc 2 1, 3) := by decide +kernel
theorem d_Md_mixed_140 : decode prog_8_method_34_code 140 = .ok (.goto (-138), 3) := by decide +kernel
theorem d_Md_mixed_143 : decode prog_8_method_34_code 143 = .ok (.iconst 0, 1) := by decide +kernel
theorem d_Md_mixed_144 : decode prog_8_method_34_code 144 = .ok (.ireturn, 1) := by decide +kernel
set_option maxRecDepth 20000 in
set_option maxHeartbeats 4000000 in
theorem cD_mixed (E : fk_E) (b0 : Nat) (b1 : Nat) (b2 : Nat) (b3 : Nat) (b4 : Nat) (b5 : Nat) (b6 : Nat) (b7 : Nat) (b8 : Nat) (b9 : Nat) (b10 : Nat) (b11 : Nat) (b12 : Nat) (b13 : Nat) (b14 : Nat) (b15 : Nat) (mt : Nat) (mf : Nat) (my : Nat) (mw : Bool) (mc : Nat → Nat) (mi : Nat → Nat) (mu : Nat → Nat) (mfi : Nat → Nat) (mla : Nat → Nat) (q : Nat) (hN : fr_N mc mi mu mfi mla) (hq : q < 2) : fk_C E fy_Md_mixed prog_8_method_34_code 8 (some .boolean) 2 0 0 [.ref b0, .int (nI q)] [(b0, .inr (6, [.int (nI mt), .ref b1, .ref b2, .ref b3, .ref b4, .ref b5, .ref b6, .ref b7, .ref b8, .ref b9, .int (nI mf), .ref b10, .ref b11, .ref b12, .int (nI my), .int (nI (Bool.toNat mw)), .ref b13, .ref b14, .ref b15])), fk_ai E b3 2 mc, fk_ai E b4 28 mi, fk_ai E b5 28 mu, fk_ai E b6 2 mfi, fk_ai E b7 2 mla] (S := Unit) (fun _ => some (.int (nI (Bool.toNat (fr_mx (fr_O mc mu mfi q)))))) (fun _ => True) (fun _ => [(b0, .inr (6, [.int (nI mt), .ref b1, .ref b2, .ref b3, .ref b4, .ref b5, .ref b6, .ref b7, .ref b8, .ref b9, .int (nI mf), .ref b10, .ref b11, .ref b12, .int (nI my), .int (nI (Bool.toNat mw)), .ref b13, .ref b14, .ref b15])), fk_ai E b3 2 mc, fk_ai E b4 28 mi, fk_ai E b5 28 mu, fk_ai E b6 2 mfi, fk_ai E b7 2 mla]) := by
  refine fk_enterZ (v := fun _ => fr_mx (fr_O mc mu mfi q)) (by decide) (Nat.le_of_ble_eq_true rfl) (lv0 := [(0, .ref b0), (1, .int (nI q))]) rfl ?_
  intro K hini hret
  refine fk_iconst (v := nI 0) d_Md_mixed_0 (by decide +kernel) ?_
  refine fk_istore_n (lv' := [(0, .ref b0), (1, .int (nI q)), (2, .int (nI 0))]) d_Md_mixed_1 rfl (Nat.le_of_ble_eq_true rfl) [1, 2, 0] rfl ?_
  have L2 : ∀ (fuel : Nat) (i : Nat), (i ≤ 15) → (∀ j, j < i → (fun z9 => decide (1 < fs_bc (fr_st (fr_O mc mu mfi q) z9) 7) && decide (fr_st (fr_O mc mu mfi q) z9 &&& fr_ot (fr_O mc mu mfi q) z9 ≠ 0)) j = false) → 15 - i < fuel → fk_V E (prog_8_method_34_code, fy_Md_mixed.cls, 8, fk_rm 2 0 0) K (0, 0) [(b0, .inr (6, [.int (nI mt), .ref b1, .ref b2, .ref b3, .ref b4, .ref b5, .ref b6, .ref b7, .ref b8, .ref b9, .int (nI mf), .ref b10, .ref b11, .ref b12, .int (nI my), .int (nI (Bool.toNat mw)), .ref b13, .ref b14, .ref b15])), fk_ai E b3 2 mc, fk_ai E b4 28 mi, fk_ai E b5 28 mu, fk_ai E b6 2 mfi, fk_ai E b7 2 mla] 2 [(0, .ref b0), (1, .int (nI q)), (2, .int (nI i))] [] := by
    intro fuel
    induction fuel with
    | zero => intro i _ _ hm; exact absurd hm (Nat.not_lt_zero _)
    | succ fuel ih =>
      intro i h1 h2 hm2
      have ih2 := ih
      clear ih
      refine fk_iload_n 2 d_Md_mixed_2 rfl ?_
      refine fk_bipush (v := nI 15) d_Md_mixed_3 (by decide +kernel) ?_
      refine fk_icmp_ge (a := i) (b := 15) (by omega) (by omega) d_Md_mixed_5 rfl (fun h5t => ?_) (fun h5f => ?_)
      · refine fk_iconst (v := nI 0) d_Md_mixed_143 (by decide +kernel) ?_
        refine fk_top (fn_rf (b := fr_mx (fr_O mc mu mfi q)) (fs_any_f.mpr (fun j hj => h2 j (by omega)))) ?_
        exact hret (0, 0) _ 144 _ () d_Md_mixed_144 (trivial) (rfl)
      · refine fk_iconst (v := nI 0) d_Md_mixed_8 (by decide +kernel) ?_
        refine fk_istore_n (lv' := [(0, .ref b0), (1, .int (nI q)), (2, .int (nI i)), (3, .int (nI 0))]) d_Md_mixed_9 rfl (Nat.le_of_ble_eq_true rfl) [1, 2, 3, 0] rfl ?_
        refine fk_iconst (v := nI 0) d_Md_mixed_10 (by decide +kernel) ?_
        refine fk_istore (lv' := [(0, .ref b0), (1, .int (nI q)), (2, .int (nI i)), (3, .int (nI 0)), (4, .int (nI 0))]) d_Md_mixed_11 (Nat.le_of_ble_eq_true rfl) [1, 2, 3, 4, 0] rfl ?_
        refine fk_iconst (v := nI 0) d_Md_mixed_13 (by decide +kernel) ?_
        refine fk_istore (lv' := [(0, .ref b0), (1, .int (nI q)), (2, .int (nI i)), (3, .int (nI 0)), (4, .int (nI 0)), (5, .int (nI 0))]) d_Md_mixed_14 (Nat.le_of_ble_eq_true rfl) [1, 2, 3, 4, 5, 0] rfl ?_
        refine fk_iconst (v := nI 0) d_Md_mixed_16 (by decide +kernel) ?_
        refine fk_istore (lv' := [(0, .ref b0), (1, .int (nI q)), (2, .int (nI i)), (3, .int (nI 0)), (4, .int (nI 0)), (5, .int (nI 0)), (6, .int (nI 0))]) d_Md_mixed_17 (Nat.le_of_ble_eq_true rfl) [1, 2, 3, 4, 5, 6, 0] rfl ?_
        have L19 : ∀ (fuel : Nat) (s : Nat) (o : Nat) (n : Nat) (a : Nat), (a ≤ 7) → (s = fs_set (fun z => fs_tak (fr_O mc mu mfi q) z (fr_cp i)) a) → (o = fs_set (fun z => fs_any (fun z7 => decide (z7 ≠ i) && fs_tak (fr_O mc mu mfi q) z (fr_cp z7)) 15) a) → (n = fs_bc (fr_st (fr_O mc mu mfi q) i) a) → (n ≤ a) → 7 - a < fuel → fk_V E (prog_8_method_34_code, fy_Md_mixed.cls, 8, fk_rm 2 0 0) K (0, 0) [(b0, .inr (6, [.int (nI mt), .ref b1, .ref b2, .ref b3, .ref b4, .ref b5, .ref b6, .ref b7, .ref b8, .ref b9, .int (nI mf), .ref b10, .ref b11, .ref b12, .int (nI my), .int (nI (Bool.toNat mw)), .ref b13, .ref b14, .ref b15])), fk_ai E b3 2 mc, fk_ai E b4 28 mi, fk_ai E b5 28 mu, fk_ai E b6 2 mfi, fk_ai E b7 2 mla] 19 [(0, .ref b0), (1, .int (nI q)), (2, .int (nI i)), (3, .int (nI s)), (4, .int (nI o)), (5, .int (nI n)), (6, .int (nI a))] [] := by
          intro fuel
          induction fuel with
          | zero => intro s o n a _ _ _ _ _ hm; exact absurd hm (Nat.not_lt_zero _)
          | succ fuel ih =>
            intro s o n a h3 h4 h5 h6 h6b hm19
            have ih19 := ih
            clear ih
            refine fk_iload 6 d_Md_mixed_19 rfl ?_
            refine fk_bipush (v := nI 7) d_Md_mixed_21 (by decide +kernel) ?_
            refine fk_icmp_ge (a := a) (b := 7) (by omega) (by omega) d_Md_mixed_23 rfl (fun h23t => ?_) (fun h23f => ?_)
            · have e9 : a = 7 := by omega
              rw [e9] at h4 h5 h6
              have k1 : s = fr_st (fr_O mc mu mfi q) i := h4
              have k2 : o = fr_ot (fr_O mc mu mfi q) i := h5
              have k3 : n = fs_bc (fr_st (fr_O mc mu mfi q) i) 7 := h6
              have k4 : s < 128 := by rw [k1]; exact fs_set_lt _ (by decide)
              refine fk_iload 5 d_Md_mixed_122 rfl ?_
              refine fk_iconst (v := nI 1) d_Md_mixed_124 (by decide +kernel) ?_
              refine fk_icmp_le (a := n) (b := 1) (by omega) (by omega) d_Md_mixed_125 rfl (fun h125t => ?_) (fun h125f => ?_)
              · refine fk_iinc (j := 2) (lv' := [(0, .ref b0), (1, .int (nI q)), (2, .int (nI (i + 1))), (3, .int (nI s)), (4, .int (nI o)), (5, .int (nI n)), (6, .int (nI a))]) (i + 1) d_Md_mixed_137 rfl (nI_1 i) (Nat.le_of_ble_eq_true rfl) [1, 2, 0, 3, 4, 5, 6] rfl ?_
                refine fk_goto d_Md_mixed_140 rfl ?_
                refine fk_lv (lv' := [(0, .ref b0), (1, .int (nI q)), (2, .int (nI (i + 1)))]) [0, 1, 2] rfl ?_
                refine ih2 _ ?_ ?_ ?_
                · first | omega | assumption | exact Nat.zero_le _
                · refine fs_lt_s (f := (fun z9 => decide (1 < fs_bc (fr_st (fr_O mc mu mfi q) z9) 7) && decide (fr_st (fr_O mc mu mfi q) z9 &&& fr_ot (fr_O mc mu mfi q) z9 ≠ 0))) h2 ?_
                  show (decide (1 < fs_bc (fr_st _ i) 7) && decide (fr_st _ i &&& fr_ot _ i ≠ 0)) = false
                  first | (rw [← k3, decide_eq_false (by omega), Bool.false_and]; done) | (rw [← k1, ← k2, h132t]; simp)
                · omega
              · refine fk_iload_n 3 d_Md_mixed_128 rfl ?_
                refine fk_iload 4 d_Md_mixed_129 rfl ?_
                refine fk_iand (a := s) (b := o) d_Md_mixed_131 ?_
                refine fk_if_eq (a := (s &&& o)) (by have := fb_and_lt' (b := o) k4; omega) d_Md_mixed_132 rfl (fun h132t => ?_) (fun h132f => ?_)
                · refine fk_iinc (j := 2) (lv' := [(0, .ref b0), (1, .int (nI q)), (2, .int (nI (i + 1))), (3, .int (nI s)), (4, .int (nI o)), (5, .int (nI n)), (6, .int (nI a))]) (i + 1) d_Md_mixed_137 rfl (nI_1 i) (Nat.le_of_ble_eq_true rfl) [1, 2, 0, 3, 4, 5, 6] rfl ?_
                  refine fk_goto d_Md_mixed_140 rfl ?_
                  refine fk_lv (lv' := [(0, .ref b0), (1, .int (nI q)), (2, .int (nI (i + 1)))]) [0, 1, 2] rfl ?_
                  refine ih2 _ ?_ ?_ ?_
                  · first | omega | assumption | exact Nat.zero_le _
                  · refine fs_lt_s (f := (fun z9 => decide (1 < fs_bc (fr_st (fr_O mc mu mfi q) z9) 7) && decide (fr_st (fr_O mc mu mfi q) z9 &&& fr_ot (fr_O mc mu mfi q) z9 ≠ 0))) h2 ?_
                    show (decide (1 < fs_bc (fr_st _ i) 7) && decide (fr_st _ i &&& fr_ot _ i ≠ 0)) = false
                    first | (rw [← k3, decide_eq_false (by omega), Bool.false_and]; done) | (rw [← k1, ← k2, h132t]; simp)
                  · omega
                · refine fk_iconst (v := nI 1) d_Md_mixed_135 (by decide +kernel) ?_
                  refine fk_top (fn_rt (b := fr_mx (fr_O mc mu mfi q)) (fs_any_t (j := i) (by omega) (by show (decide (1 < fs_bc (fr_st _ i) 7) && decide (fr_st _ i &&& fr_ot _ i ≠ 0)) = true; rw [← k3, ← k1, ← k2, decide_eq_true h125f, decide_eq_true h132f]; rfl))) ?_
                  exact hret (0, 0) _ 136 _ () d_Md_mixed_136 (trivial) (rfl)
            · have g5 := fb_pow_lt h23f
              have L46 : ∀ (v : Nat), (v = if fs_tak (fr_O mc mu mfi q) a (fr_cp i) = true then 2 ^ a else 0) → fk_V E (prog_8_method_34_code, fy_Md_mixed.cls, 8, fk_rm 2 0 0) K (0, 0) [(b0, .inr (6, [.int (nI mt), .ref b1, .ref b2, .ref b3, .ref b4, .ref b5, .ref b6, .ref b7, .ref b8, .ref b9, .int (nI mf), .ref b10, .ref b11, .ref b12, .int (nI my), .int (nI (Bool.toNat mw)), .ref b13, .ref b14, .ref b15])), fk_ai E b3 2 mc, fk_ai E b4 28 mi, fk_ai E b5 28 mu, fk_ai E b6 2 mfi, fk_ai E b7 2 mla] 46 [(0, .ref b0), (1, .int (nI q)), (2, .int (nI i)), (3, .int (nI s)), (4, .int (nI o)), (5, .int (nI n)), (6, .int (nI a))] [.int (nI v), .int (nI s)] := by
                intro v j1
                refine fk_ior (a := s) (b := v) d_Md_mixed_46 ?_
                refine fk_istore_n (lv' := [(0, .ref b0), (1, .int (nI q)), (2, .int (nI i)), (3, .int (nI (s ||| v))), (4, .int (nI o)), (5, .int (nI n)), (6, .int (nI a))]) d_Md_mixed_47 rfl (Nat.le_of_ble_eq_true rfl) [1, 2, 3, 0, 4, 5, 6] rfl ?_
                have L66 : ∀ (v2 : Nat), (v2 = Bool.toNat (fs_tak (fr_O mc mu mfi q) a (fr_cp i))) → fk_V E (prog_8_method_34_code, fy_Md_mixed.cls, 8, fk_rm 2 0 0) K (0, 0) [(b0, .inr (6, [.int (nI mt), .ref b1, .ref b2, .ref b3, .ref b4, .ref b5, .ref b6, .ref b7, .ref b8, .ref b9, .int (nI mf), .ref b10, .ref b11, .ref b12, .int (nI my), .int (nI (Bool.toNat mw)), .ref b13, .ref b14, .ref b15])), fk_ai E b3 2 mc, fk_ai E b4 28 mi, fk_ai E b5 28 mu, fk_ai E b6 2 mfi, fk_ai E b7 2 mla] 66 [(0, .ref b0), (1, .int (nI q)), (2, .int (nI i)), (3, .int (nI (s ||| v))), (4, .int (nI o)), (5, .int (nI n)), (6, .int (nI a))] [.int (nI v2), .int (nI n)] := by
                  intro v2 j2
                  refine fk_iadd (a := n) (b := v2) d_Md_mixed_66 ?_
                  refine fk_istore (lv' := [(0, .ref b0), (1, .int (nI q)), (2, .int (nI i)), (3, .int (nI (s ||| v))), (4, .int (nI o)), (5, .int (nI (n + v2))), (6, .int (nI a))]) d_Md_mixed_67 (Nat.le_of_ble_eq_true rfl) [1, 2, 3, 4, 5, 0, 6] rfl ?_
                  refine fk_iconst (v := nI 0) d_Md_mixed_69 (by decide +kernel) ?_
                  refine fk_istore (lv' := [(0, .ref b0), (1, .int (nI q)), (2, .int (nI i)), (3, .int (nI (s ||| v))), (4, .int (nI o)), (5, .int (nI (n + v2))), (6, .int (nI a)), (7, .int (nI 0))]) d_Md_mixed_70 (Nat.le_of_ble_eq_true rfl) [1, 2, 3, 4, 5, 6, 7, 0] rfl ?_
                  have L72 : ∀ (fuel : Nat) (o2 : Nat) (r : Nat), (r ≤ 15) → (o2 = o ||| (if fs_any (fun z7 => decide (z7 ≠ i) && fs_tak (fr_O mc mu mfi q) a (fr_cp z7)) r = true then 2 ^ a else 0)) → 15 - r < fuel → fk_V E (prog_8_method_34_code, fy_Md_mixed.cls, 8, fk_rm 2 0 0) K (0, 0) [(b0, .inr (6, [.int (nI mt), .ref b1, .ref b2, .ref b3, .ref b4, .ref b5, .ref b6, .ref b7, .ref b8, .ref b9, .int (nI mf), .ref b10, .ref b11, .ref b12, .int (nI my), .int (nI (Bool.toNat mw)), .ref b13, .ref b14, .ref b15])), fk_ai E b3 2 mc, fk_ai E b4 28 mi, fk_ai E b5 28 mu, fk_ai E b6 2 mfi, fk_ai E b7 2 mla] 72 [(0, .ref b0), (1, .int (nI q)), (2, .int (nI i)), (3, .int (nI (s ||| v))), (4, .int (nI o2)), (5, .int (nI (n + v2))), (6, .int (nI a)), (7, .int (nI r))] [] := by
                    intro fuel
                    induction fuel with
                    | zero => intro o2 r _ _ hm; exact absurd hm (Nat.not_lt_zero _)
                    | succ fuel ih =>
                      intro o2 r h7 h8 hm72
                      have ih72 := ih
                      clear ih
                      refine fk_iload 7 d_Md_mixed_72 rfl ?_
                      refine fk_bipush (v := nI 15) d_Md_mixed_74 (by decide +kernel) ?_
                      refine fk_icmp_ge (a := r) (b := 15) (by omega) (by omega) d_Md_mixed_76 rfl (fun h76t => ?_) (fun h76f => ?_)
                      · refine fk_iinc (j := 6) (lv' := [(0, .ref b0), (1, .int (nI q)), (2, .int (nI i)), (3, .int (nI (s ||| v))), (4, .int (nI o2)), (5, .int (nI (n + v2))), (6, .int (nI (a + 1))), (7, .int (nI r))]) (a + 1) d_Md_mixed_116 rfl (nI_1 a) (Nat.le_of_ble_eq_true rfl) [1, 2, 3, 4, 5, 6, 0, 7] rfl ?_
                        refine fk_goto d_Md_mixed_119 rfl ?_
                        refine fk_lv (lv' := [(0, .ref b0), (1, .int (nI q)), (2, .int (nI i)), (3, .int (nI (s ||| v))), (4, .int (nI o2)), (5, .int (nI (n + v2))), (6, .int (nI (a + 1)))]) [0, 1, 2, 3, 4, 5, 6] rfl ?_
                        refine ih19 _ _ _ _ ?_ ?_ ?_ ?_ ?_ ?_
                        · first | omega | assumption | exact Nat.zero_le _
                        · rw [j1, h4]
                          rfl
                        · rw [h8, show r = 15 by omega, h5]
                          rfl
                        · rw [j2, h6, ← fr_st_bit (O := (fr_O mc mu mfi q)) h23f]
                          rfl
                        · have : v2 ≤ 1 := by rw [j2]; cases (fs_tak (fr_O mc mu mfi q) a (fr_cp i)) <;> decide
                          omega
                        · omega
                      · have L107 : ∀ (v3 : Nat), (v3 = if (fun z7 => decide (z7 ≠ i) && fs_tak (fr_O mc mu mfi q) a (fr_cp z7)) r = true then 2 ^ a else 0) → fk_V E (prog_8_method_34_code, fy_Md_mixed.cls, 8, fk_rm 2 0 0) K (0, 0) [(b0, .inr (6, [.int (nI mt), .ref b1, .ref b2, .ref b3, .ref b4, .ref b5, .ref b6, .ref b7, .ref b8, .ref b9, .int (nI mf), .ref b10, .ref b11, .ref b12, .int (nI my), .int (nI (Bool.toNat mw)), .ref b13, .ref b14, .ref b15])), fk_ai E b3 2 mc, fk_ai E b4 28 mi, fk_ai E b5 28 mu, fk_ai E b6 2 mfi, fk_ai E b7 2 mla] 107 [(0, .ref b0), (1, .int (nI q)), (2, .int (nI i)), (3, .int (nI (s ||| v))), (4, .int (nI o2)), (5, .int (nI (n + v2))), (6, .int (nI a)), (7, .int (nI r))] [.int (nI v3), .int (nI o2)] := by
                          intro v3 j3
                          refine fk_ior (a := o2) (b := v3) d_Md_mixed_107 ?_
                          refine fk_istore (lv' := [(0, .ref b0), (1, .int (nI q)), (2, .int (nI i)), (3, .int (nI (s ||| v))), (4, .int (nI (o2 ||| v3))), (5, .int (nI (n + v2))), (6, .int (nI a)), (7, .int (nI r))]) d_Md_mixed_108 (Nat.le_of_ble_eq_true rfl) [1, 2, 3, 4, 0, 5, 6, 7] rfl ?_
                          refine fk_iinc (j := 7) (lv' := [(0, .ref b0), (1, .int (nI q)), (2, .int (nI i)), (3, .int (nI (s ||| v))), (4, .int (nI (o2 ||| v3))), (5, .int (nI (n + v2))), (6, .int (nI a)), (7, .int (nI (r + 1)))]) (r + 1) d_Md_mixed_110 rfl (nI_1 r) (Nat.le_of_ble_eq_true rfl) [1, 2, 3, 4, 5, 6, 7, 0] rfl ?_
                          refine fk_goto d_Md_mixed_113 rfl ?_
                          refine ih72 _ _ ?_ ?_ ?_
                          · first | omega | assumption | exact Nat.zero_le _
                          · rw [j3, h8, fs_any_s, Nat.or_assoc, fr_ifor]
                          · omega
                        refine fk_iload 4 d_Md_mixed_79 rfl ?_
                        refine fk_iload 7 d_Md_mixed_81 rfl ?_
                        refine fk_iload_n 2 d_Md_mixed_83 rfl ?_
                        refine fk_icmp_eq (a := r) (b := i) (by omega) (by omega) d_Md_mixed_84 rfl (fun h84t => ?_) (fun h84f => ?_)
                        · refine fk_iconst (v := nI 0) d_Md_mixed_106 (by decide +kernel) ?_
                          refine L107 _ ?_
                          · show _ = if (decide (r ≠ i) && _) = true then _ else _
                            first | (rw [h96f, decide_eq_true (show r ≠ i from h84f)]; rfl) | (rw [h96t, Bool.and_false]; rfl) | (rw [decide_eq_false (show ¬ r ≠ i from fun w => w h84t)]; rfl)
                        · refine fk_aload_n 0 d_Md_mixed_87 rfl ?_
                          refine fk_iload_n 1 d_Md_mixed_88 rfl ?_
                          refine fk_iload 7 d_Md_mixed_89 rfl ?_
                          refine fk_iload 6 d_Md_mixed_91 rfl ?_
                          refine fk_callV (q0 := 0) (As := [.int (nI q), .int (nI r), .int (nI a)]) (rest := [.int (nI o2)]) (is := [0, 1, 3, 4]) (ir := [2, 5]) (ip := [2, 3, 0, 4, 5, 1]) (wc := [(b0, .inr (6, [.int (nI mt), .ref b1, .ref b2, .ref b3, .ref b4, .ref b5, .ref b6, .ref b7, .ref b8, .ref b9, .int (nI mf), .ref b10, .ref b11, .ref b12, .int (nI my), .int (nI (Bool.toNat mw)), .ref b13, .ref b14, .ref b15])), fk_ai E b3 2 mc, fk_ai E b5 28 mu, fk_ai E b6 2 mfi]) (wr := [fk_ai E b4 28 mi, fk_ai E b7 2 mla]) (w2 := fun _ => [(b0, .inr (6, [.int (nI mt), .ref b1, .ref b2, .ref b3, .ref b4, .ref b5, .ref b6, .ref b7, .ref b8, .ref b9, .int (nI mf), .ref b10, .ref b11, .ref b12, .int (nI my), .int (nI (Bool.toNat mw)), .ref b13, .ref b14, .ref b15])), fk_ai E b3 2 mc, fk_ai E b4 28 mi, fk_ai E b5 28 mu, fk_ai E b6 2 mfi, fk_ai E b7 2 mla]) (cD_takes E b0 b1 b2 b3 b4 b5 b6 b7 b8 b9 b10 b11 b12 b13 b14 b15 mt mf my mw mc mi mu mfi mla q r a (by first | omega | assumption) (by first | omega | assumption) (by first | omega | assumption) (by first | omega | assumption)) d_Md_mixed_93 fz_Md_takes fw_654 rfl rfl fw_656 fw_p22 ⟨Nat.le_of_ble_eq_true rfl, Nat.le_of_ble_eq_true rfl⟩ rfl (Nat.le_of_ble_eq_true rfl) ⟨Nat.zero_le _, Nat.zero_le _⟩ ⟨rfl, rfl, rfl, rfl, by decide, fun _ => rfl, rfl⟩ (fun u hu93 => ?_)
                          show fk_V E _ K (0, 0) [(b0, .inr (6, [.int (nI mt), .ref b1, .ref b2, .ref b3, .ref b4, .ref b5, .ref b6, .ref b7, .ref b8, .ref b9, .int (nI mf), .ref b10, .ref b11, .ref b12, .int (nI my), .int (nI (Bool.toNat mw)), .ref b13, .ref b14, .ref b15])), fk_ai E b3 2 mc, fk_ai E b4 28 mi, fk_ai E b5 28 mu, fk_ai E b6 2 mfi, fk_ai E b7 2 mla] 96 [(0, .ref b0), (1, .int (nI q)), (2, .int (nI i)), (3, .int (nI (s ||| v))), (4, .int (nI o2)), (5, .int (nI (n + v2))), (6, .int (nI a)), (7, .int (nI r))] [.int (nI (Bool.toNat (fs_tak (fr_O mc mu mfi q) a (fr_cp r)))), .int (nI o2)]
                          refine fk_if_eqB (b := (fs_tak (fr_O mc mu mfi q) a (fr_cp r))) d_Md_mixed_96 rfl (fun h96t => ?_) (fun h96f => ?_)
                          · refine fk_iconst (v := nI 0) d_Md_mixed_106 (by decide +kernel) ?_
                            refine L107 _ ?_
                            · show _ = if (decide (r ≠ i) && _) = true then _ else _
                              first | (rw [h96f, decide_eq_true (show r ≠ i from h84f)]; rfl) | (rw [h96t, Bool.and_false]; rfl) | (rw [decide_eq_false (show ¬ r ≠ i from fun w => w h84t)]; rfl)
                          · refine fk_iconst (v := nI 1) d_Md_mixed_99 (by decide +kernel) ?_
                            refine fk_iload 6 d_Md_mixed_100 rfl ?_
                            refine fk_ishl (a := 1) (b := a) d_Md_mixed_102 (by omega) (by omega) ?_
                            refine fk_top (show nI (1 * 2 ^ a) = nI (2 ^ a) by rw [Nat.one_mul]) ?_
                            refine fk_goto d_Md_mixed_103 rfl ?_
                            refine L107 _ ?_
                            · show _ = if (decide (r ≠ i) && _) = true then _ else _
                              first | (rw [h96f, decide_eq_true (show r ≠ i from h84f)]; rfl) | (rw [h96t, Bool.and_false]; rfl) | (rw [decide_eq_false (show ¬ r ≠ i from fun w => w h84t)]; rfl)
                  refine L72 _ _ _ ?_ ?_ (Nat.lt_succ_self _)
                  · first | omega | assumption | exact Nat.zero_le _
                  · exact (Nat.or_zero _).symm
                refine fk_iload 5 d_Md_mixed_48 rfl ?_
                refine fk_aload_n 0 d_Md_mixed_50 rfl ?_
                refine fk_iload_n 1 d_Md_mixed_51 rfl ?_
                refine fk_iload_n 2 d_Md_mixed_52 rfl ?_
                refine fk_iload 6 d_Md_mixed_53 rfl ?_
                refine fk_callV (q0 := 0) (As := [.int (nI q), .int (nI i), .int (nI a)]) (rest := [.int (nI n)]) (is := [0, 1, 3, 4]) (ir := [2, 5]) (ip := [2, 3, 0, 4, 5, 1]) (wc := [(b0, .inr (6, [.int (nI mt), .ref b1, .ref b2, .ref b3, .ref b4, .ref b5, .ref b6, .ref b7, .ref b8, .ref b9, .int (nI mf), .ref b10, .ref b11, .ref b12, .int (nI my), .int (nI (Bool.toNat mw)), .ref b13, .ref b14, .ref b15])), fk_ai E b3 2 mc, fk_ai E b5 28 mu, fk_ai E b6 2 mfi]) (wr := [fk_ai E b4 28 mi, fk_ai E b7 2 mla]) (w2 := fun _ => [(b0, .inr (6, [.int (nI mt), .ref b1, .ref b2, .ref b3, .ref b4, .ref b5, .ref b6, .ref b7, .ref b8, .ref b9, .int (nI mf), .ref b10, .ref b11, .ref b12, .int (nI my), .int (nI (Bool.toNat mw)), .ref b13, .ref b14, .ref b15])), fk_ai E b3 2 mc, fk_ai E b4 28 mi, fk_ai E b5 28 mu, fk_ai E b6 2 mfi, fk_ai E b7 2 mla]) (cD_takes E b0 b1 b2 b3 b4 b5 b6 b7 b8 b9 b10 b11 b12 b13 b14 b15 mt mf my mw mc mi mu mfi mla q i a (by first | omega | assumption) (by first | omega | assumption) (by first | omega | assumption) (by first | omega | assumption)) d_Md_mixed_55 fz_Md_takes fw_654 rfl rfl fw_656 fw_p22 ⟨Nat.le_of_ble_eq_true rfl, Nat.le_of_ble_eq_true rfl⟩ rfl (Nat.le_of_ble_eq_true rfl) ⟨Nat.zero_le _, Nat.zero_le _⟩ ⟨rfl, rfl, rfl, rfl, by decide, fun _ => rfl, rfl⟩ (fun u hu55 => ?_)
                show fk_V E _ K (0, 0) [(b0, .inr (6, [.int (nI mt), .ref b1, .ref b2, .ref b3, .ref b4, .ref b5, .ref b6, .ref b7, .ref b8, .ref b9, .int (nI mf), .ref b10, .ref b11, .ref b12, .int (nI my), .int (nI (Bool.toNat mw)), .ref b13, .ref b14, .ref b15])), fk_ai E b3 2 mc, fk_ai E b4 28 mi, fk_ai E b5 28 mu, fk_ai E b6 2 mfi, fk_ai E b7 2 mla] 58 [(0, .ref b0), (1, .int (nI q)), (2, .int (nI i)), (3, .int (nI (s ||| v))), (4, .int (nI o)), (5, .int (nI n)), (6, .int (nI a))] [.int (nI (Bool.toNat (fs_tak (fr_O mc mu mfi q) a (fr_cp i)))), .int (nI n)]
                refine fk_if_eqB (b := (fs_tak (fr_O mc mu mfi q) a (fr_cp i))) d_Md_mixed_58 rfl (fun h58t => ?_) (fun h58f => ?_)
                · refine fk_iconst (v := nI 0) d_Md_mixed_65 (by decide +kernel) ?_
                  refine L66 _ ?_
                  · first | (rw [h58t]; rfl) | (rw [h58f]; rfl)
                · refine fk_iconst (v := nI 1) d_Md_mixed_61 (by decide +kernel) ?_
                  refine fk_goto d_Md_mixed_62 rfl ?_
                  refine L66 _ ?_
                  · first | (rw [h58t]; rfl) | (rw [h58f]; rfl)
              refine fk_iload_n 3 d_Md_mixed_26 rfl ?_
              refine fk_aload_n 0 d_Md_mixed_27 rfl ?_
              refine fk_iload_n 1 d_Md_mixed_28 rfl ?_
              refine fk_iload_n 2 d_Md_mixed_29 rfl ?_
              refine fk_iload 6 d_Md_mixed_30 rfl ?_
              refine fk_callV (q0 := 0) (As := [.int (nI q), .int (nI i), .int (nI a)]) (rest := [.int (nI s)]) (is := [0, 1, 3, 4]) (ir := [2, 5]) (ip := [2, 3, 0, 4, 5, 1]) (wc := [(b0, .inr (6, [.int (nI mt), .ref b1, .ref b2, .ref b3, .ref b4, .ref b5, .ref b6, .ref b7, .ref b8, .ref b9, .int (nI mf), .ref b10, .ref b11, .ref b12, .int (nI my), .int (nI (Bool.toNat mw)), .ref b13, .ref b14, .ref b15])), fk_ai E b3 2 mc, fk_ai E b5 28 mu, fk_ai E b6 2 mfi]) (wr := [fk_ai E b4 28 mi, fk_ai E b7 2 mla]) (w2 := fun _ => [(b0, .inr (6, [.int (nI mt), .ref b1, .ref b2, .ref b3, .ref b4, .ref b5, .ref b6, .ref b7, .ref b8, .ref b9, .int (nI mf), .ref b10, .ref b11, .ref b12, .int (nI my), .int (nI (Bool.toNat mw)), .ref b13, .ref b14, .ref b15])), fk_ai E b3 2 mc, fk_ai E b4 28 mi, fk_ai E b5 28 mu, fk_ai E b6 2 mfi, fk_ai E b7 2 mla]) (cD_takes E b0 b1 b2 b3 b4 b5 b6 b7 b8 b9 b10 b11 b12 b13 b14 b15 mt mf my mw mc mi mu mfi mla q i a (by first | omega | assumption) (by first | omega | assumption) (by first | omega | assumption) (by first | omega | assumption)) d_Md_mixed_32 fz_Md_takes fw_654 rfl rfl fw_656 fw_p22 ⟨Nat.le_of_ble_eq_true rfl, Nat.le_of_ble_eq_true rfl⟩ rfl (Nat.le_of_ble_eq_true rfl) ⟨Nat.zero_le _, Nat.zero_le _⟩ ⟨rfl, rfl, rfl, rfl, by decide, fun _ => rfl, rfl⟩ (fun u hu32 => ?_)
              show fk_V E _ K (0, 0) [(b0, .inr (6, [.int (nI mt), .ref b1, .ref b2, .ref b3, .ref b4, .ref b5, .ref b6, .ref b7, .ref b8, .ref b9, .int (nI mf), .ref b10, .ref b11, .ref b12, .int (nI my), .int (nI (Bool.toNat mw)), .ref b13, .ref b14, .ref b15])), fk_ai E b3 2 mc, fk_ai E b4 28 mi, fk_ai E b5 28 mu, fk_ai E b6 2 mfi, fk_ai E b7 2 mla] 35 [(0, .ref b0), (1, .int (nI q)), (2, .int (nI i)), (3, .int (nI s)), (4, .int (nI o)), (5, .int (nI n)), (6, .int (nI a))] [.int (nI (Bool.toNat (fs_tak (fr_O mc mu mfi q) a (fr_cp i)))), .int (nI s)]
              refine fk_if_eqB (b := (fs_tak (fr_O mc mu mfi q) a (fr_cp i))) d_Md_mixed_35 rfl (fun h35t => ?_) (fun h35f => ?_)
              · refine fk_iconst (v := nI 0) d_Md_mixed_45 (by decide +kernel) ?_
                refine L46 _ ?_
                · first | rw [h35t, if_neg (by decide)] | rw [h35f, if_pos rfl]
              · refine fk_iconst (v := nI 1) d_Md_mixed_38 (by decide +kernel) ?_
                refine fk_iload 6 d_Md_mixed_39 rfl ?_
                refine fk_ishl (a := 1) (b := a) d_Md_mixed_41 (by omega) (by omega) ?_
                refine fk_top (show nI (1 * 2 ^ a) = nI (2 ^ a) by rw [Nat.one_mul]) ?_
                refine fk_goto d_Md_mixed_42 rfl ?_
                refine L46 _ ?_
                · first | rw [h35t, if_neg (by decide)] | rw [h35f, if_pos rfl]
        refine L19 _ _ _ _ _ ?_ ?_ ?_ ?_ ?_ (Nat.lt_succ_self _)
        · first | omega | assumption | exact Nat.zero_le _
        · rfl
        · rfl
        · rfl
        · first | omega | assumption | exact Nat.zero_le _
  refine L2 _ _ ?_ ?_ (Nat.lt_succ_self _)
  · first | omega | assumption | exact Nat.zero_le _
  · exact fs_lt_0
theorem d_Md_shape_0 : decode prog_8_method_35_code 0 = .ok (.iload_n 1, 1) := by decide +kernel
theorem d_Md_shape_1 : decode prog_8_method_35_code 1 = .ok (.invokestatic 82, 3) := by decide +kernel
theorem d_Md_shape_4 : decode prog_8_method_35_code 4 = .ok (.ifCond .eq 5, 3) := by decide +kernel
theorem d_Md_shape_7 : decode prog_8_method_35_code 7 = .ok (.iconst (-1), 1) := by decide +kernel
theorem d_Md_shape_8 : decode prog_8_method_35_code 8 = .ok (.ireturn, 1) := by decide +kernel
theorem d_Md_shape_9 : decode prog_8_method_35_code 9 = .ok (.iconst 0, 1) := by decide +kernel
theorem d_Md_shape_10 : decode prog_8_method_35_code 10 = .ok (.istore_n 2, 1) := by decide +kernel
theorem d_Md_shape_11 : decode prog_8_method_35_code 11 = .ok (.iconst 0, 1) := by decide +kernel
theorem d_Md_shape_12 : decode prog_8_method_35_code 12 = .ok (.istore_n 3, 1) := by decide +kernel
theorem d_Md_shape_13 : decode prog_8_method_35_code 13 = .ok (.iload_n 3, 1) := by decide +kernel
theorem d_Md_shape_14 : decode prog_8_method_35_code 14 = .ok (.aload_n 0, 1) := by decide +kernel
theorem d_Md_shape_15 : decode prog_8_method_35_code 15 = .ok (.getfield 16, 3) := by decide +kernel
theorem d_Md_shape_18 : decode prog_8_method_35_code 18 = .ok (.iload_n 1, 1) := by decide +kernel
theorem d_Md_shape_19 : decode prog_8_method_35_code 19 = .ok (.iaload, 1) := by decide +kernel
theorem d_Md_shape_20 : decode prog_8_method_35_code 20 = .ok (.if_icmp .ge 45, 3) := by decide +kernel
theorem d_Md_shape_23 : decode prog_8_method_35_code 23 = .ok (.iload_n 2, 1) := by decide +kernel
theorem d_Md_shape_24 : decode prog_8_method_35_code 24 = .ok (.ifCond .ne 29, 3) := by decide +kernel
theorem d_Md_shape_27 : decode prog_8_method_35_code 27 = .ok (.aload_n 0, 1) := by decide +kernel
theorem d_Md_shape_28 : decode prog_8_method_35_code 28 = .ok (.getfield 19, 3) := by decide +kernel
theorem d_Md_shape_31 : decode prog_8_method_35_code 31 = .ok (.bipush 14, 2) := by decide +kernel
theorem d_Md_shape_33 : decode prog_8_method_35_code 33 = .ok (.iload_n 1, 1) := by decide +kernel
theorem d_Md_shape_34 : decode prog_8_method_35_code 34 = .ok (.imul, 1) := by decide +kernel
theorem d_Md_shape_35 : decode prog_8_method_35_code 35 = .ok (.iload_n 3, 1) := by decide +kernel
theorem d_Md_shape_36 : decode prog_8_method_35_code 36 = .ok (.iadd, 1) := by decide +kernel
theorem d_Md_shape_37 : decode prog_8_method_35_code 37 = .ok (.iaload, 1) := by decide +kernel
theorem d_Md_shape_38 : decode prog_8_method_35_code 38 = .ok (.aload_n 0, 1) := by decide +kernel
theorem d_Md_shape_39 : decode prog_8_method_35_code 39 = .ok (.getfield 22, 3) := by decide +kernel
theorem d_Md_shape_42 : decode prog_8_method_35_code 42 = .ok (.bipush 14, 2) := by decide +kernel
theorem d_Md_shape_44 : decode prog_8_method_35_code 44 = .ok (.iload_n 1, 1) := by decide +kernel
theorem d_Md_shape_45 : decode prog_8_method_35_code 45 = .ok (.imul, 1) := by decide +kernel
theorem d_Md_shape_46 : decode prog_8_method_35_code 46 = .ok (.iload_n 3, 1) := by decide +kernel
theorem d_Md_shape_47 : decode prog_8_method_35_code 47 = .ok (.iadd, 1) := by decide +kernel
theorem d_Md_shape_48 : decode prog_8_method_35_code 48 = .ok (.iaload, 1) := by decide +kernel
theorem d_Md_shape_49 : decode prog_8_method_35_code 49 = .ok (.iand, 1) := by decide +kernel
theorem d_Md_shape_50 : decode prog_8_method_35_code 50 = .ok (.ifCond .eq 7, 3) := by decide +kernel
theorem d_Md_shape_53 : decode prog_8_method_35_code 53 = .ok (.iconst 1, 1) := by decide +kernel
theorem d_Md_shape_54 : decode prog_8_method_35_code 54 = .ok (.goto 4, 3) := by decide +kernel
theorem d_Md_shape_57 : decode prog_8_method_35_code 57 = .ok (.iconst 0, 1) := by decide +kernel
theorem d_Md_shape_58 : decode prog_8_method_35_code 58 = .ok (.istore_n 2, 1) := by decide +kernel
theorem d_Md_shape_59 : decode prog_8_method_35_code 59 = .ok (.iinc 3 1, 3) := by decide +kernel
theorem d_Md_shape_62 : decode prog_8_method_35_code 62 = .ok (.goto (-49), 3) := by decide +kernel
theorem d_Md_shape_65 : decode prog_8_method_35_code 65 = .ok (.iload_n 2, 1) := by decide +kernel
theorem d_Md_shape_66 : decode prog_8_method_35_code 66 = .ok (.ifCond .eq 7, 3) := by decide +kernel
theorem d_Md_shape_69 : decode prog_8_method_35_code 69 = .ok (.iconst 1, 1) := by decide +kernel
theorem d_Md_shape_70 : decode prog_8_method_35_code 70 = .ok (.goto 4, 3) := by decide +kernel
theorem d_Md_shape_73 : decode prog_8_method_35_code 73 = .ok (.iconst 0, 1) := by decide +kernel
theorem d_Md_shape_74 : decode prog_8_method_35_code 74 = .ok (.aload_n 0, 1) := by decide +kernel
theorem d_Md_shape_75 : decode prog_8_method_35_code 75 = .ok (.iload_n 1, 1) := by decide +kernel
theorem d_Md_shape_76 : decode prog_8_method_35_code 76 = .ok (.invokevirtual 129, 3) := by decide +kernel
theorem d_Md_shape_79 : decode prog_8_method_35_code 79 = .ok (.ifCond .eq 7, 3) := by decide +kernel
theorem d_Md_shape_82 : decode prog_8_method_35_code 82 = .ok (.iconst 2, 1) := by decide +kernel
theorem d_Md_shape_83 : decode prog_8_method_35_code 83 = .ok (.goto 4, 3) := by decide +kernel
theorem d_Md_shape_86 : decode prog_8_method_35_code 86 = .ok (.iconst 0, 1) := by decide +kernel
theorem d_Md_shape_87 : decode prog_8_method_35_code 87 = .ok (.iadd, 1) := by decide +kernel
theorem d_Md_shape_88 : decode prog_8_method_35_code 88 = .ok (.aload_n 0, 1) := by decide +kernel
theorem d_Md_shape_89 : decode prog_8_method_35_code 89 = .ok (.iload_n 1, 1) := by decide +kernel
theorem d_Md_shape_90 : decode prog_8_method_35_code 90 = .ok (.invokevirtual 132, 3) := by decide +kernel
theorem d_Md_shape_93 : decode prog_8_method_35_code 93 = .ok (.ifCond .eq 7, 3) := by decide +kernel
theorem d_Md_shape_96 : decode prog_8_method_35_code 96 = .ok (.iconst 4, 1) := by decide +kernel
theorem d_Md_shape_97 : decode prog_8_method_35_code 97 = .ok (.goto 4, 3) := by decide +kernel
theorem d_Md_shape_100 : decode prog_8_method_35_code 100 = .ok (.iconst 0, 1) := by decide +kernel
theorem d_Md_shape_101 : decode prog_8_method_35_code 101 = .ok (.iadd, 1) := by decide +kernel
theorem d_Md_shape_102 : decode prog_8_method_35_code 102 = .ok (.ireturn, 1) := by decide +kernel
set_option maxRecDepth 20000 in
set_option maxHeartbeats 4000000 in
theorem cD_shape (E : fk_E) (b0 : Nat) (b1 : Nat) (b2 : Nat) (b3 : Nat) (b4 : Nat) (b5 : Nat) (b6 : Nat) (b7 : Nat) (b8 : Nat) (b9 : Nat) (b10 : Nat) (b11 : Nat) (b12 : Nat) (b13 : Nat) (b14 : Nat) (b15 : Nat) (mt : Nat) (mf : Nat) (my : Nat) (mw : Bool) (mc : Nat → Nat) (mi : Nat → Nat) (mu : Nat → Nat) (mfi : Nat → Nat) (mla : Nat → Nat) (q : Nat) (hN : fr_N mc mi mu mfi mla) (hq : q < 2) : fk_C E fy_Md_shape prog_8_method_35_code 4 (some .int) 3 0 0 [.ref b0, .int (nI q)] [(b0, .inr (6, [.int (nI mt), .ref b1, .ref b2, .ref b3, .ref b4, .ref b5, .ref b6, .ref b7, .ref b8, .ref b9, .int (nI mf), .ref b10, .ref b11, .ref b12, .int (nI my), .int (nI (Bool.toNat mw)), .ref b13, .ref b14, .ref b15])), fk_ai E b3 2 mc, fk_ai E b4 28 mi, fk_ai E b5 28 mu, fk_ai E b6 2 mfi, fk_ai E b7 2 mla] (S := Unit) (fun _ => some (.int (nI (Bool.toNat (fs_any (fun z9 => decide (mi (14 * q + z9) &&& mu (14 * q + z9) ≠ 0)) (mc q)) + 2 * Bool.toNat (fr_lp (fr_O mc mu mfi q) (fr_I mc mi mla q)) + 4 * Bool.toNat (fr_mx (fr_O mc mu mfi q)))))) (fun _ => True) (fun _ => [(b0, .inr (6, [.int (nI mt), .ref b1, .ref b2, .ref b3, .ref b4, .ref b5, .ref b6, .ref b7, .ref b8, .ref b9, .int (nI mf), .ref b10, .ref b11, .ref b12, .int (nI my), .int (nI (Bool.toNat mw)), .ref b13, .ref b14, .ref b15])), fk_ai E b3 2 mc, fk_ai E b4 28 mi, fk_ai E b5 28 mu, fk_ai E b6 2 mfi, fk_ai E b7 2 mla]) := by
  refine fk_enterI (v := fun _ => (nI (Bool.toNat (fs_any (fun z9 => decide (mi (14 * q + z9) &&& mu (14 * q + z9) ≠ 0)) (mc q)) + 2 * Bool.toNat (fr_lp (fr_O mc mu mfi q) (fr_I mc mi mla q)) + 4 * Bool.toNat (fr_mx (fr_O mc mu mfi q))))) (by decide) (Nat.le_of_ble_eq_true rfl) (lv0 := [(0, .ref b0), (1, .int (nI q))]) rfl ?_
  intro K hini hret
  have g0 := hN.2 q hq
  refine fk_iload_n 1 d_Md_shape_0 rfl ?_
  refine fk_callS (As := [.int (nI q)]) (rest := []) (is := []) (ir := [0, 1, 2, 3, 4, 5]) (ip := [0, 1, 2, 3, 4, 5]) (wc := []) (wr := [(b0, .inr (6, [.int (nI mt), .ref b1, .ref b2, .ref b3, .ref b4, .ref b5, .ref b6, .ref b7, .ref b8, .ref b9, .int (nI mf), .ref b10, .ref b11, .ref b12, .int (nI my), .int (nI (Bool.toNat mw)), .ref b13, .ref b14, .ref b15])), fk_ai E b3 2 mc, fk_ai E b4 28 mi, fk_ai E b5 28 mu, fk_ai E b6 2 mfi, fk_ai E b7 2 mla]) (w2 := fun _ => [(b0, .inr (6, [.int (nI mt), .ref b1, .ref b2, .ref b3, .ref b4, .ref b5, .ref b6, .ref b7, .ref b8, .ref b9, .int (nI mf), .ref b10, .ref b11, .ref b12, .int (nI my), .int (nI (Bool.toNat mw)), .ref b13, .ref b14, .ref b15])), fk_ai E b3 2 mc, fk_ai E b4 28 mi, fk_ai E b5 28 mu, fk_ai E b6 2 mfi, fk_ai E b7 2 mla]) (cD_notNet E q (by first | omega | assumption)) d_Md_shape_1 fz_Md_notNet fw_627 fw_628 ⟨Nat.le_of_ble_eq_true rfl, Nat.le_of_ble_eq_true rfl⟩ rfl (Nat.le_of_ble_eq_true rfl) ⟨Nat.zero_le _, Nat.zero_le _⟩ ⟨rfl, rfl, rfl, rfl, by decide, fun _ => rfl, rfl⟩ (fun u hu1 => ?_)
  show fk_V E _ K (0, 0) [(b0, .inr (6, [.int (nI mt), .ref b1, .ref b2, .ref b3, .ref b4, .ref b5, .ref b6, .ref b7, .ref b8, .ref b9, .int (nI mf), .ref b10, .ref b11, .ref b12, .int (nI my), .int (nI (Bool.toNat mw)), .ref b13, .ref b14, .ref b15])), fk_ai E b3 2 mc, fk_ai E b4 28 mi, fk_ai E b5 28 mu, fk_ai E b6 2 mfi, fk_ai E b7 2 mla] 4 [(0, .ref b0), (1, .int (nI q))] [.int (nI (Bool.toNat (decide (2 ≤ q))))]
  refine fk_if_eqB (b := (decide (2 ≤ q))) d_Md_shape_4 rfl (fun h4t => ?_) (fun h4f => ?_)
  · refine fk_iconst (v := nI 0) d_Md_shape_9 (by decide +kernel) ?_
    refine fk_istore_n (lv' := [(0, .ref b0), (1, .int (nI q)), (2, .int (nI 0))]) d_Md_shape_10 rfl (Nat.le_of_ble_eq_true rfl) [1, 2, 0] rfl ?_
    refine fk_iconst (v := nI 0) d_Md_shape_11 (by decide +kernel) ?_
    refine fk_istore_n (lv' := [(0, .ref b0), (1, .int (nI q)), (2, .int (nI 0)), (3, .int (nI 0))]) d_Md_shape_12 rfl (Nat.le_of_ble_eq_true rfl) [1, 2, 3, 0] rfl ?_
    have L13 : ∀ (fuel : Nat) (b : Bool) (k : Nat), (k ≤ mc q) → (b = fs_any (fun z => decide (mi (14 * q + z) &&& mu (14 * q + z) ≠ 0)) k) → mc q - k < fuel → fk_V E (prog_8_method_35_code, fy_Md_shape.cls, 4, fk_rm 3 0 0) K (0, 0) [(b0, .inr (6, [.int (nI mt), .ref b1, .ref b2, .ref b3, .ref b4, .ref b5, .ref b6, .ref b7, .ref b8, .ref b9, .int (nI mf), .ref b10, .ref b11, .ref b12, .int (nI my), .int (nI (Bool.toNat mw)), .ref b13, .ref b14, .ref b15])), fk_ai E b3 2 mc, fk_ai E b4 28 mi, fk_ai E b5 28 mu, fk_ai E b6 2 mfi, fk_ai E b7 2 mla] 13 [(0, .ref b0), (1, .int (nI q)), (2, .int (nI (Bool.toNat b))), (3, .int (nI k))] [] := by
      intro fuel
      induction fuel with
      | zero => intro b k _ _ hm; exact absurd hm (Nat.not_lt_zero _)
      | succ fuel ih =>
        intro b k h1 h2 hm13
        have ih13 := ih
        clear ih
        refine fk_iload_n 3 d_Md_shape_13 rfl ?_
        refine fk_aload_n 0 d_Md_shape_14 rfl ?_
        refine fk_get 0 3 rfl rfl fh_Md (Nat.le_of_ble_eq_true rfl) fw_510 rfl d_Md_shape_15 ?_
        refine fk_iload_n 1 d_Md_shape_18 rfl ?_
        refine fk_ld_ai (i := q) 1 rfl (by omega) (by decide) d_Md_shape_19 ?_
        refine fk_icmp_ge (a := k) (b := (mc q)) (by omega) (by omega) d_Md_shape_20 rfl (fun h20t => ?_) (fun h20f => ?_)
        · have e9 : k = mc q := by omega
          rw [e9] at h2
          refine fk_iload_n 2 d_Md_shape_65 rfl ?_
          refine fk_if_eqB (b := b) d_Md_shape_66 rfl (fun h66t => ?_) (fun h66f => ?_)
          · refine fk_iconst (v := nI 0) d_Md_shape_73 (by decide +kernel) ?_
            refine fk_aload_n 0 d_Md_shape_74 rfl ?_
            refine fk_iload_n 1 d_Md_shape_75 rfl ?_
            refine fk_callV (q0 := 0) (As := [.int (nI q)]) (rest := [.int (nI 0)]) (is := [0, 1, 2, 3, 4, 5]) (ir := []) (ip := [0, 1, 2, 3, 4, 5]) (wc := [(b0, .inr (6, [.int (nI mt), .ref b1, .ref b2, .ref b3, .ref b4, .ref b5, .ref b6, .ref b7, .ref b8, .ref b9, .int (nI mf), .ref b10, .ref b11, .ref b12, .int (nI my), .int (nI (Bool.toNat mw)), .ref b13, .ref b14, .ref b15])), fk_ai E b3 2 mc, fk_ai E b4 28 mi, fk_ai E b5 28 mu, fk_ai E b6 2 mfi, fk_ai E b7 2 mla]) (wr := []) (w2 := fun _ => [(b0, .inr (6, [.int (nI mt), .ref b1, .ref b2, .ref b3, .ref b4, .ref b5, .ref b6, .ref b7, .ref b8, .ref b9, .int (nI mf), .ref b10, .ref b11, .ref b12, .int (nI my), .int (nI (Bool.toNat mw)), .ref b13, .ref b14, .ref b15])), fk_ai E b3 2 mc, fk_ai E b4 28 mi, fk_ai E b5 28 mu, fk_ai E b6 2 mfi, fk_ai E b7 2 mla]) (cD_loops E b0 b1 b2 b3 b4 b5 b6 b7 b8 b9 b10 b11 b12 b13 b14 b15 mt mf my mw mc mi mu mfi mla q (by first | omega | assumption) (by first | omega | assumption)) d_Md_shape_76 fz_Md_loops fw_694 rfl rfl fw_696 fw_p29 ⟨Nat.le_of_ble_eq_true rfl, Nat.le_of_ble_eq_true rfl⟩ rfl (Nat.le_of_ble_eq_true rfl) ⟨Nat.zero_le _, Nat.zero_le _⟩ ⟨rfl, rfl, rfl, rfl, by decide, fun _ => rfl, rfl⟩ (fun u hu76 => ?_)
            show fk_V E _ K (0, 0) [(b0, .inr (6, [.int (nI mt), .ref b1, .ref b2, .ref b3, .ref b4, .ref b5, .ref b6, .ref b7, .ref b8, .ref b9, .int (nI mf), .ref b10, .ref b11, .ref b12, .int (nI my), .int (nI (Bool.toNat mw)), .ref b13, .ref b14, .ref b15])), fk_ai E b3 2 mc, fk_ai E b4 28 mi, fk_ai E b5 28 mu, fk_ai E b6 2 mfi, fk_ai E b7 2 mla] 79 [(0, .ref b0), (1, .int (nI q)), (2, .int (nI (Bool.toNat b))), (3, .int (nI k))] [.int (nI (Bool.toNat (fr_lp (fr_O mc mu mfi q) (fr_I mc mi mla q)))), .int (nI 0)]
            refine fk_if_eqB (b := (fr_lp (fr_O mc mu mfi q) (fr_I mc mi mla q))) d_Md_shape_79 rfl (fun h79t => ?_) (fun h79f => ?_)
            · refine fk_iconst (v := nI 0) d_Md_shape_86 (by decide +kernel) ?_
              refine fk_iadd (a := 0) (b := 0) d_Md_shape_87 ?_
              refine fk_top (show nI (0 + 0) = nI 0 by decide +kernel) ?_
              refine fk_aload_n 0 d_Md_shape_88 rfl ?_
              refine fk_iload_n 1 d_Md_shape_89 rfl ?_
              refine fk_callV (q0 := 0) (As := [.int (nI q)]) (rest := [.int (nI 0)]) (is := [0, 1, 2, 3, 4, 5]) (ir := []) (ip := [0, 1, 2, 3, 4, 5]) (wc := [(b0, .inr (6, [.int (nI mt), .ref b1, .ref b2, .ref b3, .ref b4, .ref b5, .ref b6, .ref b7, .ref b8, .ref b9, .int (nI mf), .ref b10, .ref b11, .ref b12, .int (nI my), .int (nI (Bool.toNat mw)), .ref b13, .ref b14, .ref b15])), fk_ai E b3 2 mc, fk_ai E b4 28 mi, fk_ai E b5 28 mu, fk_ai E b6 2 mfi, fk_ai E b7 2 mla]) (wr := []) (w2 := fun _ => [(b0, .inr (6, [.int (nI mt), .ref b1, .ref b2, .ref b3, .ref b4, .ref b5, .ref b6, .ref b7, .ref b8, .ref b9, .int (nI mf), .ref b10, .ref b11, .ref b12, .int (nI my), .int (nI (Bool.toNat mw)), .ref b13, .ref b14, .ref b15])), fk_ai E b3 2 mc, fk_ai E b4 28 mi, fk_ai E b5 28 mu, fk_ai E b6 2 mfi, fk_ai E b7 2 mla]) (cD_mixed E b0 b1 b2 b3 b4 b5 b6 b7 b8 b9 b10 b11 b12 b13 b14 b15 mt mf my mw mc mi mu mfi mla q (by first | omega | assumption) (by first | omega | assumption)) d_Md_shape_90 fz_Md_mixed fw_698 rfl rfl fw_700 fw_p30 ⟨Nat.le_of_ble_eq_true rfl, Nat.le_of_ble_eq_true rfl⟩ rfl (Nat.le_of_ble_eq_true rfl) ⟨Nat.zero_le _, Nat.zero_le _⟩ ⟨rfl, rfl, rfl, rfl, by decide, fun _ => rfl, rfl⟩ (fun u hu90 => ?_)
              show fk_V E _ K (0, 0) [(b0, .inr (6, [.int (nI mt), .ref b1, .ref b2, .ref b3, .ref b4, .ref b5, .ref b6, .ref b7, .ref b8, .ref b9, .int (nI mf), .ref b10, .ref b11, .ref b12, .int (nI my), .int (nI (Bool.toNat mw)), .ref b13, .ref b14, .ref b15])), fk_ai E b3 2 mc, fk_ai E b4 28 mi, fk_ai E b5 28 mu, fk_ai E b6 2 mfi, fk_ai E b7 2 mla] 93 [(0, .ref b0), (1, .int (nI q)), (2, .int (nI (Bool.toNat b))), (3, .int (nI k))] [.int (nI (Bool.toNat (fr_mx (fr_O mc mu mfi q)))), .int (nI 0)]
              refine fk_if_eqB (b := (fr_mx (fr_O mc mu mfi q))) d_Md_shape_93 rfl (fun h93t => ?_) (fun h93f => ?_)
              · refine fk_iconst (v := nI 0) d_Md_shape_100 (by decide +kernel) ?_
                refine fk_iadd (a := 0) (b := 0) d_Md_shape_101 ?_
                refine fk_top (show nI (0 + 0) = nI 0 by decide +kernel) ?_
                refine fk_top (congrArg nI (show 0 = Bool.toNat (fs_any (fun z9 => decide (mi (14 * q + z9) &&& mu (14 * q + z9) ≠ 0)) (mc q)) + 2 * Bool.toNat (fr_lp (fr_O mc mu mfi q) (fr_I mc mi mla q)) + 4 * Bool.toNat (fr_mx (fr_O mc mu mfi q)) from by first | (rw [← h2, h66t, h79t, h93t]; rfl) | (rw [← h2, h66t, h79t, h93f]; rfl) | (rw [← h2, h66t, h79f, h93t]; rfl) | (rw [← h2, h66t, h79f, h93f]; rfl) | (rw [← h2, h66f, h79t, h93t]; rfl) | (rw [← h2, h66f, h79t, h93f]; rfl) | (rw [← h2, h66f, h79f, h93t]; rfl) | (rw [← h2, h66f, h79f, h93f]; rfl))) ?_
                exact hret (0, 0) _ 102 _ () d_Md_shape_102 (trivial) (rfl)
              · refine fk_iconst (v := nI 4) d_Md_shape_96 (by decide +kernel) ?_
                refine fk_goto d_Md_shape_97 rfl ?_
                refine fk_iadd (a := 0) (b := 4) d_Md_shape_101 ?_
                refine fk_top (show nI (0 + 4) = nI 4 by decide +kernel) ?_
                refine fk_top (congrArg nI (show 4 = Bool.toNat (fs_any (fun z9 => decide (mi (14 * q + z9) &&& mu (14 * q + z9) ≠ 0)) (mc q)) + 2 * Bool.toNat (fr_lp (fr_O mc mu mfi q) (fr_I mc mi mla q)) + 4 * Bool.toNat (fr_mx (fr_O mc mu mfi q)) from by first | (rw [← h2, h66t, h79t, h93t]; rfl) | (rw [← h2, h66t, h79t, h93f]; rfl) | (rw [← h2, h66t, h79f, h93t]; rfl) | (rw [← h2, h66t, h79f, h93f]; rfl) | (rw [← h2, h66f, h79t, h93t]; rfl) | (rw [← h2, h66f, h79t, h93f]; rfl) | (rw [← h2, h66f, h79f, h93t]; rfl) | (rw [← h2, h66f, h79f, h93f]; rfl))) ?_
                exact hret (0, 0) _ 102 _ () d_Md_shape_102 (trivial) (rfl)
            · refine fk_iconst (v := nI 2) d_Md_shape_82 (by decide +kernel) ?_
              refine fk_goto d_Md_shape_83 rfl ?_
              refine fk_iadd (a := 0) (b := 2) d_Md_shape_87 ?_
              refine fk_top (show nI (0 + 2) = nI 2 by decide +kernel) ?_
              refine fk_aload_n 0 d_Md_shape_88 rfl ?_
              refine fk_iload_n 1 d_Md_shape_89 rfl ?_
              refine fk_callV (q0 := 0) (As := [.int (nI q)]) (rest := [.int (nI 2)]) (is := [0, 1, 2, 3, 4, 5]) (ir := []) (ip := [0, 1, 2, 3, 4, 5]) (wc := [(b0, .inr (6, [.int (nI mt), .ref b1, .ref b2, .ref b3, .ref b4, .ref b5, .ref b6, .ref b7, .ref b8, .ref b9, .int (nI mf), .ref b10, .ref b11, .ref b12, .int (nI my), .int (nI (Bool.toNat mw)), .ref b13, .ref b14, .ref b15])), fk_ai E b3 2 mc, fk_ai E b4 28 mi, fk_ai E b5 28 mu, fk_ai E b6 2 mfi, fk_ai E b7 2 mla]) (wr := []) (w2 := fun _ => [(b0, .inr (6, [.int (nI mt), .ref b1, .ref b2, .ref b3, .ref b4, .ref b5, .ref b6, .ref b7, .ref b8, .ref b9, .int (nI mf), .ref b10, .ref b11, .ref b12, .int (nI my), .int (nI (Bool.toNat mw)), .ref b13, .ref b14, .ref b15])), fk_ai E b3 2 mc, fk_ai E b4 28 mi, fk_ai E b5 28 mu, fk_ai E b6 2 mfi, fk_ai E b7 2 mla]) (cD_mixed E b0 b1 b2 b3 b4 b5 b6 b7 b8 b9 b10 b11 b12 b13 b14 b15 mt mf my mw mc mi mu mfi mla q (by first | omega | assumption) (by first | omega | assumption)) d_Md_shape_90 fz_Md_mixed fw_698 rfl rfl fw_700 fw_p30 ⟨Nat.le_of_ble_eq_true rfl, Nat.le_of_ble_eq_true rfl⟩ rfl (Nat.le_of_ble_eq_true rfl) ⟨Nat.zero_le _, Nat.zero_le _⟩ ⟨rfl, rfl, rfl, rfl, by decide, fun _ => rfl, rfl⟩ (fun u hu90 => ?_)
              show fk_V E _ K (0, 0) [(b0, .inr (6, [.int (nI mt), .ref b1, .ref b2, .ref b3, .ref b4, .ref b5, .ref b6, .ref b7, .ref b8, .ref b9, .int (nI mf), .ref b10, .ref b11, .ref b12, .int (nI my), .int (nI (Bool.toNat mw)), .ref b13, .ref b14, .ref b15])), fk_ai E b3 2 mc, fk_ai E b4 28 mi, fk_ai E b5 28 mu, fk_ai E b6 2 mfi, fk_ai E b7 2 mla] 93 [(0, .ref b0), (1, .int (nI q)), (2, .int (nI (Bool.toNat b))), (3, .int (nI k))] [.int (nI (Bool.toNat (fr_mx (fr_O mc mu mfi q)))), .int (nI 2)]
              refine fk_if_eqB (b := (fr_mx (fr_O mc mu mfi q))) d_Md_shape_93 rfl (fun h93t => ?_) (fun h93f => ?_)
              · refine fk_iconst (v := nI 0) d_Md_shape_100 (by decide +kernel) ?_
                refine fk_iadd (a := 2) (b := 0) d_Md_shape_101 ?_
                refine fk_top (show nI (2 + 0) = nI 2 by decide +kernel) ?_
                refine fk_top (congrArg nI (show 2 = Bool.toNat (fs_any (fun z9 => decide (mi (14 * q + z9) &&& mu (14 * q + z9) ≠ 0)) (mc q)) + 2 * Bool.toNat (fr_lp (fr_O mc mu mfi q) (fr_I mc mi mla q)) + 4 * Bool.toNat (fr_mx (fr_O mc mu mfi q)) from by first | (rw [← h2, h66t, h79t, h93t]; rfl) | (rw [← h2, h66t, h79t, h93f]; rfl) | (rw [← h2, h66t, h79f, h93t]; rfl) | (rw [← h2, h66t, h79f, h93f]; rfl) | (rw [← h2, h66f, h79t, h93t]; rfl) | (rw [← h2, h66f, h79t, h93f]; rfl) | (rw [← h2, h66f, h79f, h93t]; rfl) | (rw [← h2, h66f, h79f, h93f]; rfl))) ?_
                exact hret (0, 0) _ 102 _ () d_Md_shape_102 (trivial) (rfl)
              · refine fk_iconst (v := nI 4) d_Md_shape_96 (by decide +kernel) ?_
                refine fk_goto d_Md_shape_97 rfl ?_
                refine fk_iadd (a := 2) (b := 4) d_Md_shape_101 ?_
                refine fk_top (show nI (2 + 4) = nI 6 by decide +kernel) ?_
                refine fk_top (congrArg nI (show 6 = Bool.toNat (fs_any (fun z9 => decide (mi (14 * q + z9) &&& mu (14 * q + z9) ≠ 0)) (mc q)) + 2 * Bool.toNat (fr_lp (fr_O mc mu mfi q) (fr_I mc mi mla q)) + 4 * Bool.toNat (fr_mx (fr_O mc mu mfi q)) from by first | (rw [← h2, h66t, h79t, h93t]; rfl) | (rw [← h2, h66t, h79t, h93f]; rfl) | (rw [← h2, h66t, h79f, h93t]; rfl) | (rw [← h2, h66t, h79f, h93f]; rfl) | (rw [← h2, h66f, h79t, h93t]; rfl) | (rw [← h2, h66f, h79t, h93f]; rfl) | (rw [← h2, h66f, h79f, h93t]; rfl) | (rw [← h2, h66f, h79f, h93f]; rfl))) ?_
                exact hret (0, 0) _ 102 _ () d_Md_shape_102 (trivial) (rfl)
          · refine fk_iconst (v := nI 1) d_Md_shape_69 (by decide +kernel) ?_
            refine fk_goto d_Md_shape_70 rfl ?_
            refine fk_aload_n 0 d_Md_shape_74 rfl ?_
            refine fk_iload_n 1 d_Md_shape_75 rfl ?_
            refine fk_callV (q0 := 0) (As := [.int (nI q)]) (rest := [.int (nI 1)]) (is := [0, 1, 2, 3, 4, 5]) (ir := []) (ip := [0, 1, 2, 3, 4, 5]) (wc := [(b0, .inr (6, [.int (nI mt), .ref b1, .ref b2, .ref b3, .ref b4, .ref b5, .ref b6, .ref b7, .ref b8, .ref b9, .int (nI mf), .ref b10, .ref b11, .ref b12, .int (nI my), .int (nI (Bool.toNat mw)), .ref b13, .ref b14, .ref b15])), fk_ai E b3 2 mc, fk_ai E b4 28 mi, fk_ai E b5 28 mu, fk_ai E b6 2 mfi, fk_ai E b7 2 mla]) (wr := []) (w2 := fun _ => [(b0, .inr (6, [.int (nI mt), .ref b1, .ref b2, .ref b3, .ref b4, .ref b5, .ref b6, .ref b7, .ref b8, .ref b9, .int (nI mf), .ref b10, .ref b11, .ref b12, .int (nI my), .int (nI (Bool.toNat mw)), .ref b13, .ref b14, .ref b15])), fk_ai E b3 2 mc, fk_ai E b4 28 mi, fk_ai E b5 28 mu, fk_ai E b6 2 mfi, fk_ai E b7 2 mla]) (cD_loops E b0 b1 b2 b3 b4 b5 b6 b7 b8 b9 b10 b11 b12 b13 b14 b15 mt mf my mw mc mi mu mfi mla q (by first | omega | assumption) (by first | omega | assumption)) d_Md_shape_76 fz_Md_loops fw_694 rfl rfl fw_696 fw_p29 ⟨Nat.le_of_ble_eq_true rfl, Nat.le_of_ble_eq_true rfl⟩ rfl (Nat.le_of_ble_eq_true rfl) ⟨Nat.zero_le _, Nat.zero_le _⟩ ⟨rfl, rfl, rfl, rfl, by decide, fun _ => rfl, rfl⟩ (fun u hu76 => ?_)
            show fk_V E _ K (0, 0) [(b0, .inr (6, [.int (nI mt), .ref b1, .ref b2, .ref b3, .ref b4, .ref b5, .ref b6, .ref b7, .ref b8, .ref b9, .int (nI mf), .ref b10, .ref b11, .ref b12, .int (nI my), .int (nI (Bool.toNat mw)), .ref b13, .ref b14, .ref b15])), fk_ai E b3 2 mc, fk_ai E b4 28 mi, fk_ai E b5 28 mu, fk_ai E b6 2 mfi, fk_ai E b7 2 mla] 79 [(0, .ref b0), (1, .int (nI q)), (2, .int (nI (Bool.toNat b))), (3, .int (nI k))] [.int (nI (Bool.toNat (fr_lp (fr_O mc mu mfi q) (fr_I mc mi mla q)))), .int (nI 1)]
            refine fk_if_eqB (b := (fr_lp (fr_O mc mu mfi q) (fr_I mc mi mla q))) d_Md_shape_79 rfl (fun h79t => ?_) (fun h79f => ?_)
            · refine fk_iconst (v := nI 0) d_Md_shape_86 (by decide +kernel) ?_
              refine fk_iadd (a := 1) (b := 0) d_Md_shape_87 ?_
              refine fk_top (show nI (1 + 0) = nI 1 by decide +kernel) ?_
              refine fk_aload_n 0 d_Md_shape_88 rfl ?_
              refine fk_iload_n 1 d_Md_shape_89 rfl ?_
              refine fk_callV (q0 := 0) (As := [.int (nI q)]) (rest := [.int (nI 1)]) (is := [0, 1, 2, 3, 4, 5]) (ir := []) (ip := [0, 1, 2, 3, 4, 5]) (wc := [(b0, .inr (6, [.int (nI mt), .ref b1, .ref b2, .ref b3, .ref b4, .ref b5, .ref b6, .ref b7, .ref b8, .ref b9, .int (nI mf), .ref b10, .ref b11, .ref b12, .int (nI my), .int (nI (Bool.toNat mw)), .ref b13, .ref b14, .ref b15])), fk_ai E b3 2 mc, fk_ai E b4 28 mi, fk_ai E b5 28 mu, fk_ai E b6 2 mfi, fk_ai E b7 2 mla]) (wr := []) (w2 := fun _ => [(b0, .inr (6, [.int (nI mt), .ref b1, .ref b2, .ref b3, .ref b4, .ref b5, .ref b6, .ref b7, .ref b8, .ref b9, .int (nI mf), .ref b10, .ref b11, .ref b12, .int (nI my), .int (nI (Bool.toNat mw)), .ref b13, .ref b14, .ref b15])), fk_ai E b3 2 mc, fk_ai E b4 28 mi, fk_ai E b5 28 mu, fk_ai E b6 2 mfi, fk_ai E b7 2 mla]) (cD_mixed E b0 b1 b2 b3 b4 b5 b6 b7 b8 b9 b10 b11 b12 b13 b14 b15 mt mf my mw mc mi mu mfi mla q (by first | omega | assumption) (by first | omega | assumption)) d_Md_shape_90 fz_Md_mixed fw_698 rfl rfl fw_700 fw_p30 ⟨Nat.le_of_ble_eq_true rfl, Nat.le_of_ble_eq_true rfl⟩ rfl (Nat.le_of_ble_eq_true rfl) ⟨Nat.zero_le _, Nat.zero_le _⟩ ⟨rfl, rfl, rfl, rfl, by decide, fun _ => rfl, rfl⟩ (fun u hu90 => ?_)
              show fk_V E _ K (0, 0) [(b0, .inr (6, [.int (nI mt), .ref b1, .ref b2, .ref b3, .ref b4, .ref b5, .ref b6, .ref b7, .ref b8, .ref b9, .int (nI mf), .ref b10, .ref b11, .ref b12, .int (nI my), .int (nI (Bool.toNat mw)), .ref b13, .ref b14, .ref b15])), fk_ai E b3 2 mc, fk_ai E b4 28 mi, fk_ai E b5 28 mu, fk_ai E b6 2 mfi, fk_ai E b7 2 mla] 93 [(0, .ref b0), (1, .int (nI q)), (2, .int (nI (Bool.toNat b))), (3, .int (nI k))] [.int (nI (Bool.toNat (fr_mx (fr_O mc mu mfi q)))), .int (nI 1)]
              refine fk_if_eqB (b := (fr_mx (fr_O mc mu mfi q))) d_Md_shape_93 rfl (fun h93t => ?_) (fun h93f => ?_)
              · refine fk_iconst (v := nI 0) d_Md_shape_100 (by decide +kernel) ?_
                refine fk_iadd (a := 1) (b := 0) d_Md_shape_101 ?_
                refine fk_top (show nI (1 + 0) = nI 1 by decide +kernel) ?_
                refine fk_top (congrArg nI (show 1 = Bool.toNat (fs_any (fun z9 => decide (mi (14 * q + z9) &&& mu (14 * q + z9) ≠ 0)) (mc q)) + 2 * Bool.toNat (fr_lp (fr_O mc mu mfi q) (fr_I mc mi mla q)) + 4 * Bool.toNat (fr_mx (fr_O mc mu mfi q)) from by first | (rw [← h2, h66t, h79t, h93t]; rfl) | (rw [← h2, h66t, h79t, h93f]; rfl) | (rw [← h2, h66t, h79f, h93t]; rfl) | (rw [← h2, h66t, h79f, h93f]; rfl) | (rw [← h2, h66f, h79t, h93t]; rfl) | (rw [← h2, h66f, h79t, h93f]; rfl) | (rw [← h2, h66f, h79f, h93t]; rfl) | (rw [← h2, h66f, h79f, h93f]; rfl))) ?_
                exact hret (0, 0) _ 102 _ () d_Md_shape_102 (trivial) (rfl)
              · refine fk_iconst (v := nI 4) d_Md_shape_96 (by decide +kernel) ?_
                refine fk_goto d_Md_shape_97 rfl ?_
                refine fk_iadd (a := 1) (b := 4) d_Md_shape_101 ?_
                refine fk_top (show nI (1 + 4) = nI 5 by decide +kernel) ?_
                refine fk_top (congrArg nI (show 5 = Bool.toNat (fs_any (fun z9 => decide (mi (14 * q + z9) &&& mu (14 * q + z9) ≠ 0)) (mc q)) + 2 * Bool.toNat (fr_lp (fr_O mc mu mfi q) (fr_I mc mi mla q)) + 4 * Bool.toNat (fr_mx (fr_O mc mu mfi q)) from by first | (rw [← h2, h66t, h79t, h93t]; rfl) | (rw [← h2, h66t, h79t, h93f]; rfl) | (rw [← h2, h66t, h79f, h93t]; rfl) | (rw [← h2, h66t, h79f, h93f]; rfl) | (rw [← h2, h66f, h79t, h93t]; rfl) | (rw [← h2, h66f, h79t, h93f]; rfl) | (rw [← h2, h66f, h79f, h93t]; rfl) | (rw [← h2, h66f, h79f, h93f]; rfl))) ?_
                exact hret (0, 0) _ 102 _ () d_Md_shape_102 (trivial) (rfl)
            · refine fk_iconst (v := nI 2) d_Md_shape_82 (by decide +kernel) ?_
              refine fk_goto d_Md_shape_83 rfl ?_
              refine fk_iadd (a := 1) (b := 2) d_Md_shape_87 ?_
              refine fk_top (show nI (1 + 2) = nI 3 by decide +kernel) ?_
              refine fk_aload_n 0 d_Md_shape_88 rfl ?_
              refine fk_iload_n 1 d_Md_shape_89 rfl ?_
              refine fk_callV (q0 := 0) (As := [.int (nI q)]) (rest := [.int (nI 3)]) (is := [0, 1, 2, 3, 4, 5]) (ir := []) (ip := [0, 1, 2, 3, 4, 5]) (wc := [(b0, .inr (6, [.int (nI mt), .ref b1, .ref b2, .ref b3, .ref b4, .ref b5, .ref b6, .ref b7, .ref b8, .ref b9, .int (nI mf), .ref b10, .ref b11, .ref b12, .int (nI my), .int (nI (Bool.toNat mw)), .ref b13, .ref b14, .ref b15])), fk_ai E b3 2 mc, fk_ai E b4 28 mi, fk_ai E b5 28 mu, fk_ai E b6 2 mfi, fk_ai E b7 2 mla]) (wr := []) (w2 := fun _ => [(b0, .inr (6, [.int (nI mt), .ref b1, .ref b2, .ref b3, .ref b4, .ref b5, .ref b6, .ref b7, .ref b8, .ref b9, .int (nI mf), .ref b10, .ref b11, .ref b12, .int (nI my), .int (nI (Bool.toNat mw)), .ref b13, .ref b14, .ref b15])), fk_ai E b3 2 mc, fk_ai E b4 28 mi, fk_ai E b5 28 mu, fk_ai E b6 2 mfi, fk_ai E b7 2 mla]) (cD_mixed E b0 b1 b2 b3 b4 b5 b6 b7 b8 b9 b10 b11 b12 b13 b14 b15 mt mf my mw mc mi mu mfi mla q (by first | omega | assumption) (by first | omega | assumption)) d_Md_shape_90 fz_Md_mixed fw_698 rfl rfl fw_700 fw_p30 ⟨Nat.le_of_ble_eq_true rfl, Nat.le_of_ble_eq_true rfl⟩ rfl (Nat.le_of_ble_eq_true rfl) ⟨Nat.zero_le _, Nat.zero_le _⟩ ⟨rfl, rfl, rfl, rfl, by decide, fun _ => rfl, rfl⟩ (fun u hu90 => ?_)
              show fk_V E _ K (0, 0) [(b0, .inr (6, [.int (nI mt), .ref b1, .ref b2, .ref b3, .ref b4, .ref b5, .ref b6, .ref b7, .ref b8, .ref b9, .int (nI mf), .ref b10, .ref b11, .ref b12, .int (nI my), .int (nI (Bool.toNat mw)), .ref b13, .ref b14, .ref b15])), fk_ai E b3 2 mc, fk_ai E b4 28 mi, fk_ai E b5 28 mu, fk_ai E b6 2 mfi, fk_ai E b7 2 mla] 93 [(0, .ref b0), (1, .int (nI q)), (2, .int (nI (Bool.toNat b))), (3, .int (nI k))] [.int (nI (Bool.toNat (fr_mx (fr_O mc mu mfi q)))), .int (nI 3)]
              refine fk_if_eqB (b := (fr_mx (fr_O mc mu mfi q))) d_Md_shape_93 rfl (fun h93t => ?_) (fun h93f => ?_)
              · refine fk_iconst (v := nI 0) d_Md_shape_100 (by decide +kernel) ?_
                refine fk_iadd (a := 3) (b := 0) d_Md_shape_101 ?_
                refine fk_top (show nI (3 + 0) = nI 3 by decide +kernel) ?_
                refine fk_top (congrArg nI (show 3 = Bool.toNat (fs_any (fun z9 => decide (mi (14 * q + z9) &&& mu (14 * q + z9) ≠ 0)) (mc q)) + 2 * Bool.toNat (fr_lp (fr_O mc mu mfi q) (fr_I mc mi mla q)) + 4 * Bool.toNat (fr_mx (fr_O mc mu mfi q)) from by first | (rw [← h2, h66t, h79t, h93t]; rfl) | (rw [← h2, h66t, h79t, h93f]; rfl) | (rw [← h2, h66t, h79f, h93t]; rfl) | (rw [← h2, h66t, h79f, h93f]; rfl) | (rw [← h2, h66f, h79t, h93t]; rfl) | (rw [← h2, h66f, h79t, h93f]; rfl) | (rw [← h2, h66f, h79f, h93t]; rfl) | (rw [← h2, h66f, h79f, h93f]; rfl))) ?_
                exact hret (0, 0) _ 102 _ () d_Md_shape_102 (trivial) (rfl)
              · refine fk_iconst (v := nI 4) d_Md_shape_96 (by decide +kernel) ?_
                refine fk_goto d_Md_shape_97 rfl ?_
                refine fk_iadd (a := 3) (b := 4) d_Md_shape_101 ?_
                refine fk_top (show nI (3 + 4) = nI 7 by decide +kernel) ?_
                refine fk_top (congrArg nI (show 7 = Bool.toNat (fs_any (fun z9 => decide (mi (14 * q + z9) &&& mu (14 * q + z9) ≠ 0)) (mc q)) + 2 * Bool.toNat (fr_lp (fr_O mc mu mfi q) (fr_I mc mi mla q)) + 4 * Bool.toNat (fr_mx (fr_O mc mu mfi q)) from by first | (rw [← h2, h66t, h79t, h93t]; rfl) | (rw [← h2, h66t, h79t, h93f]; rfl) | (rw [← h2, h66t, h79f, h93t]; rfl) | (rw [← h2, h66t, h79f, h93f]; rfl) | (rw [← h2, h66f, h79t, h93t]; rfl) | (rw [← h2, h66f, h79t, h93f]; rfl) | (rw [← h2, h66f, h79f, h93t]; rfl) | (rw [← h2, h66f, h79f, h93f]; rfl))) ?_
                exact hret (0, 0) _ 102 _ () d_Md_shape_102 (trivial) (rfl)
        · have g1 := hN.1 (14 * q + k) (by omega)
          have L58 : ∀ (sb2 : Bool), (sb2 = (b || (fun z => decide (mi (14 * q + z) &&& mu (14 * q + z) ≠ 0)) k)) → fk_V E (prog_8_method_35_code, fy_Md_shape.cls, 4, fk_rm 3 0 0) K (0, 0) [(b0, .inr (6, [.int (nI mt), .ref b1, .ref b2, .ref b3, .ref b4, .ref b5, .ref b6, .ref b7, .ref b8, .ref b9, .int (nI mf), .ref b10, .ref b11, .ref b12, .int (nI my), .int (nI (Bool.toNat mw)), .ref b13, .ref b14, .ref b15])), fk_ai E b3 2 mc, fk_ai E b4 28 mi, fk_ai E b5 28 mu, fk_ai E b6 2 mfi, fk_ai E b7 2 mla] 58 [(0, .ref b0), (1, .int (nI q)), (2, .int (nI (Bool.toNat b))), (3, .int (nI k))] [.int (nI (Bool.toNat sb2))] := by
            intro sb2 j1
            refine fk_istore_n (lv' := [(0, .ref b0), (1, .int (nI q)), (2, .int (nI (Bool.toNat sb2))), (3, .int (nI k))]) d_Md_shape_58 rfl (Nat.le_of_ble_eq_true rfl) [1, 2, 0, 3] rfl ?_
            refine fk_iinc (j := 3) (lv' := [(0, .ref b0), (1, .int (nI q)), (2, .int (nI (Bool.toNat sb2))), (3, .int (nI (k + 1)))]) (k + 1) d_Md_shape_59 rfl (nI_1 k) (Nat.le_of_ble_eq_true rfl) [1, 2, 3, 0] rfl ?_
            refine fk_goto d_Md_shape_62 rfl ?_
            refine ih13 _ _ ?_ ?_ ?_
            · first | omega | assumption | exact Nat.zero_le _
            · rw [j1, h2]
              rfl
            · omega
          refine fk_iload_n 2 d_Md_shape_23 rfl ?_
          refine fk_if_neB (b := b) d_Md_shape_24 rfl (fun h24t => ?_) (fun h24f => ?_)
          · refine fk_iconst (v := nI 1) d_Md_shape_53 (by decide +kernel) ?_
            refine fk_goto d_Md_shape_54 rfl ?_
            refine L58 true ?_
            · show _ = (b || decide _)
              first | rw [h24t, Bool.true_or] | rw [h24f, decide_eq_true h50f, Bool.or_true] | (rw [h24f, decide_eq_false (fun w => w h50t), Bool.or_self])
          · refine fk_aload_n 0 d_Md_shape_27 rfl ?_
            refine fk_get 0 4 rfl rfl fh_Md (Nat.le_of_ble_eq_true rfl) fw_511 rfl d_Md_shape_28 ?_
            refine fk_bipush (v := nI 14) d_Md_shape_31 (by decide +kernel) ?_
            refine fk_iload_n 1 d_Md_shape_33 rfl ?_
            refine fk_imul (a := 14) (b := q) d_Md_shape_34 ?_
            refine fk_iload_n 3 d_Md_shape_35 rfl ?_
            refine fk_iadd (a := (14 * q)) (b := k) d_Md_shape_36 ?_
            refine fk_ld_ai (i := ((14 * q) + k)) 2 rfl (by omega) (by decide) d_Md_shape_37 ?_
            refine fk_aload_n 0 d_Md_shape_38 rfl ?_
            refine fk_get 0 5 rfl rfl fh_Md (Nat.le_of_ble_eq_true rfl) fw_512 rfl d_Md_shape_39 ?_
            refine fk_bipush (v := nI 14) d_Md_shape_42 (by decide +kernel) ?_
            refine fk_iload_n 1 d_Md_shape_44 rfl ?_
            refine fk_imul (a := 14) (b := q) d_Md_shape_45 ?_
            refine fk_iload_n 3 d_Md_shape_46 rfl ?_
            refine fk_iadd (a := (14 * q)) (b := k) d_Md_shape_47 ?_
            refine fk_ld_ai (i := ((14 * q) + k)) 3 rfl (by omega) (by decide) d_Md_shape_48 ?_
            refine fk_iand (a := (mi ((14 * q) + k))) (b := (mu ((14 * q) + k))) d_Md_shape_49 ?_
            refine fk_if_eq (a := ((mi ((14 * q) + k)) &&& (mu ((14 * q) + k)))) (by have := fb_and_lt (a := mi (14 * q + k)) g1.2; omega) d_Md_shape_50 rfl (fun h50t => ?_) (fun h50f => ?_)
            · refine fk_iconst (v := nI 0) d_Md_shape_57 (by decide +kernel) ?_
              refine L58 false ?_
              · show _ = (b || decide _)
                first | rw [h24t, Bool.true_or] | rw [h24f, decide_eq_true h50f, Bool.or_true] | (rw [h24f, decide_eq_false (fun w => w h50t), Bool.or_self])
            · refine fk_iconst (v := nI 1) d_Md_shape_53 (by decide +kernel) ?_
              refine fk_goto d_Md_shape_54 rfl ?_
              refine L58 true ?_
              · show _ = (b || decide _)
                first | rw [h24t, Bool.true_or] | rw [h24f, decide_eq_true h50f, Bool.or_true] | (rw [h24f, decide_eq_false (fun w => w h50t), Bool.or_self])
    refine L13 _ false _ ?_ ?_ (Nat.lt_succ_self _)
    · first | omega | assumption | exact Nat.zero_le _
    · rfl
  · exact absurd (of_decide_eq_true h4f) (by omega)
set_option maxRecDepth 20000 in
set_option maxHeartbeats 4000000 in
theorem cD_shapeO (E : fk_E) (b0 : Nat) (b1 : Nat) (b2 : Nat) (b3 : Nat) (b4 : Nat) (b5 : Nat) (b6 : Nat) (b7 : Nat) (b8 : Nat) (b9 : Nat) (b10 : Nat) (b11 : Nat) (b12 : Nat) (b13 : Nat) (b14 : Nat) (b15 : Nat) (mt : Nat) (mf : Nat) (my : Nat) (mw : Bool) (q : Nat) (h : 2 ≤ q) (hq : q < 2 ^ 31) : fk_C E fy_Md_shape prog_8_method_35_code 4 (some .int) 3 0 0 [.ref b0, .int (nI q)] [(b0, .inr (6, [.int (nI mt), .ref b1, .ref b2, .ref b3, .ref b4, .ref b5, .ref b6, .ref b7, .ref b8, .ref b9, .int (nI mf), .ref b10, .ref b11, .ref b12, .int (nI my), .int (nI (Bool.toNat mw)), .ref b13, .ref b14, .ref b15]))] (S := Unit) (fun _ => some (.int (nI 0 - 1))) (fun _ => True) (fun _ => [(b0, .inr (6, [.int (nI mt), .ref b1, .ref b2, .ref b3, .ref b4, .ref b5, .ref b6, .ref b7, .ref b8, .ref b9, .int (nI mf), .ref b10, .ref b11, .ref b12, .int (nI my), .int (nI (Bool.toNat mw)), .ref b13, .ref b14, .ref b15]))]) := by
  refine fk_enterI (v := fun _ => (nI 0 - 1)) (by decide) (Nat.le_of_ble_eq_true rfl) (lv0 := [(0, .ref b0), (1, .int (nI q))]) rfl ?_
  intro K hini hret
  refine fk_iload_n 1 d_Md_shape_0 rfl ?_
  refine fk_callS (As := [.int (nI q)]) (rest := []) (is := []) (ir := [0]) (ip := [0]) (wc := []) (wr := [(b0, .inr (6, [.int (nI mt), .ref b1, .ref b2, .ref b3, .ref b4, .ref b5, .ref b6, .ref b7, .ref b8, .ref b9, .int (nI mf), .ref b10, .ref b11, .ref b12, .int (nI my), .int (nI (Bool.toNat mw)), .ref b13, .ref b14, .ref b15]))]) (w2 := fun _ => [(b0, .inr (6, [.int (nI mt), .ref b1, .ref b2, .ref b3, .ref b4, .ref b5, .ref b6, .ref b7, .ref b8, .ref b9, .int (nI mf), .ref b10, .ref b11, .ref b12, .int (nI my), .int (nI (Bool.toNat mw)), .ref b13, .ref b14, .ref b15]))]) (cD_notNet E q (by first | omega | assumption)) d_Md_shape_1 fz_Md_notNet fw_627 fw_628 ⟨Nat.le_of_ble_eq_true rfl, Nat.le_of_ble_eq_true rfl⟩ rfl (Nat.le_of_ble_eq_true rfl) ⟨Nat.zero_le _, Nat.zero_le _⟩ ⟨rfl, rfl, rfl, rfl, by decide, fun _ => rfl, rfl⟩ (fun u hu1 => ?_)
  show fk_V E _ K (0, 0) [(b0, .inr (6, [.int (nI mt), .ref b1, .ref b2, .ref b3, .ref b4, .ref b5, .ref b6, .ref b7, .ref b8, .ref b9, .int (nI mf), .ref b10, .ref b11, .ref b12, .int (nI my), .int (nI (Bool.toNat mw)), .ref b13, .ref b14, .ref b15]))] 4 [(0, .ref b0), (1, .int (nI q))] [.int (nI (Bool.toNat (decide (2 ≤ q))))]
  refine fk_if_eqB (b := (decide (2 ≤ q))) d_Md_shape_4 rfl (fun h4t => ?_) (fun h4f => ?_)
  · exact absurd (of_decide_eq_false h4t) (by omega)
  · refine fk_iconst (v := nI 0 - 1) d_Md_shape_7 (by decide +kernel) ?_
    exact hret (0, 0) _ 8 _ () d_Md_shape_8 (trivial) (rfl)
set_option maxRecDepth 20000 in
set_option maxHeartbeats 4000000 in
theorem cD_shapeM (E : fk_E) (b0 : Nat) (b1 : Nat) (b2 : Nat) (b3 : Nat) (b4 : Nat) (b5 : Nat) (b6 : Nat) (b7 : Nat) (b8 : Nat) (b9 : Nat) (b10 : Nat) (b11 : Nat) (b12 : Nat) (b13 : Nat) (b14 : Nat) (b15 : Nat) (mt : Nat) (mf : Nat) (my : Nat) (mw : Bool) (x : Int32) (hx : x < 0) : fk_C E fy_Md_shape prog_8_method_35_code 4 (some .int) 3 0 0 [.ref b0, .int x] [(b0, .inr (6, [.int (nI mt), .ref b1, .ref b2, .ref b3, .ref b4, .ref b5, .ref b6, .ref b7, .ref b8, .ref b9, .int (nI mf), .ref b10, .ref b11, .ref b12, .int (nI my), .int (nI (Bool.toNat mw)), .ref b13, .ref b14, .ref b15]))] (S := Unit) (fun _ => some (.int (nI 0 - 1))) (fun _ => True) (fun _ => [(b0, .inr (6, [.int (nI mt), .ref b1, .ref b2, .ref b3, .ref b4, .ref b5, .ref b6, .ref b7, .ref b8, .ref b9, .int (nI mf), .ref b10, .ref b11, .ref b12, .int (nI my), .int (nI (Bool.toNat mw)), .ref b13, .ref b14, .ref b15]))]) := by
  refine fk_enterI (v := fun _ => (nI 0 - 1)) (by decide) (Nat.le_of_ble_eq_true rfl) (lv0 := [(0, .ref b0), (1, .int x)]) rfl ?_
  intro K hini hret
  refine fk_iload_n 1 d_Md_shape_0 rfl ?_
  refine fk_callS (As := [.int x]) (rest := []) (is := []) (ir := [0]) (ip := [0]) (wc := []) (wr := [(b0, .inr (6, [.int (nI mt), .ref b1, .ref b2, .ref b3, .ref b4, .ref b5, .ref b6, .ref b7, .ref b8, .ref b9, .int (nI mf), .ref b10, .ref b11, .ref b12, .int (nI my), .int (nI (Bool.toNat mw)), .ref b13, .ref b14, .ref b15]))]) (w2 := fun _ => [(b0, .inr (6, [.int (nI mt), .ref b1, .ref b2, .ref b3, .ref b4, .ref b5, .ref b6, .ref b7, .ref b8, .ref b9, .int (nI mf), .ref b10, .ref b11, .ref b12, .int (nI my), .int (nI (Bool.toNat mw)), .ref b13, .ref b14, .ref b15]))]) (cD_notNetM E x (by first | omega | assumption)) d_Md_shape_1 fz_Md_notNet fw_627 fw_628 ⟨Nat.le_of_ble_eq_true rfl, Nat.le_of_ble_eq_true rfl⟩ rfl (Nat.le_of_ble_eq_true rfl) ⟨Nat.zero_le _, Nat.zero_le _⟩ ⟨rfl, rfl, rfl, rfl, by decide, fun _ => rfl, rfl⟩ (fun u hu1 => ?_)
  show fk_V E _ K (0, 0) [(b0, .inr (6, [.int (nI mt), .ref b1, .ref b2, .ref b3, .ref b4, .ref b5, .ref b6, .ref b7, .ref b8, .ref b9, .int (nI mf), .ref b10, .ref b11, .ref b12, .int (nI my), .int (nI (Bool.toNat mw)), .ref b13, .ref b14, .ref b15]))] 4 [(0, .ref b0), (1, .int x)] [.int (nI (Bool.toNat true))]
  refine fk_if_eqB (b := true) d_Md_shape_4 rfl (fun h4t => ?_) (fun h4f => ?_)
  · exact absurd h4t (by decide)
  · refine fk_iconst (v := nI 0 - 1) d_Md_shape_7 (by decide +kernel) ?_
    exact hret (0, 0) _ 8 _ () d_Md_shape_8 (trivial) (rfl)
