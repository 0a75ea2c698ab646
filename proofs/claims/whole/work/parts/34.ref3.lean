theorem d_Md_enabled_0 : decode prog_8_method_25_code 0 = .ok (.aload_n 0, 1) := by decide +kernel
theorem d_Md_enabled_1 : decode prog_8_method_25_code 1 = .ok (.iload_n 1, 1) := by decide +kernel
theorem d_Md_enabled_2 : decode prog_8_method_25_code 2 = .ok (.invokevirtual 86, 3) := by decide +kernel
theorem d_Md_enabled_5 : decode prog_8_method_25_code 5 = .ok (.iload_n 2, 1) := by decide +kernel
theorem d_Md_enabled_6 : decode prog_8_method_25_code 6 = .ok (.invokestatic 66, 3) := by decide +kernel
theorem d_Md_enabled_9 : decode prog_8_method_25_code 9 = .ok (.istore_n 3, 1) := by decide +kernel
theorem d_Md_enabled_10 : decode prog_8_method_25_code 10 = .ok (.iconst 0, 1) := by decide +kernel
theorem d_Md_enabled_11 : decode prog_8_method_25_code 11 = .ok (.istore 4, 2) := by decide +kernel
theorem d_Md_enabled_13 : decode prog_8_method_25_code 13 = .ok (.iload 4, 2) := by decide +kernel
theorem d_Md_enabled_15 : decode prog_8_method_25_code 15 = .ok (.bipush 16, 2) := by decide +kernel
theorem d_Md_enabled_17 : decode prog_8_method_25_code 17 = .ok (.if_icmp .ge 40, 3) := by decide +kernel
theorem d_Md_enabled_20 : decode prog_8_method_25_code 20 = .ok (.iload_n 3, 1) := by decide +kernel
theorem d_Md_enabled_21 : decode prog_8_method_25_code 21 = .ok (.ifCond .eq 28, 3) := by decide +kernel
theorem d_Md_enabled_24 : decode prog_8_method_25_code 24 = .ok (.aload_n 0, 1) := by decide +kernel
theorem d_Md_enabled_25 : decode prog_8_method_25_code 25 = .ok (.iload_n 1, 1) := by decide +kernel
theorem d_Md_enabled_26 : decode prog_8_method_25_code 26 = .ok (.iload 4, 2) := by decide +kernel
theorem d_Md_enabled_28 : decode prog_8_method_25_code 28 = .ok (.iload_n 2, 1) := by decide +kernel
theorem d_Md_enabled_29 : decode prog_8_method_25_code 29 = .ok (.invokevirtual 90, 3) := by decide +kernel
theorem d_Md_enabled_32 : decode prog_8_method_25_code 32 = .ok (.ifCond .eq 13, 3) := by decide +kernel
theorem d_Md_enabled_35 : decode prog_8_method_25_code 35 = .ok (.aload_n 0, 1) := by decide +kernel
theorem d_Md_enabled_36 : decode prog_8_method_25_code 36 = .ok (.getfield 43, 3) := by decide +kernel
theorem d_Md_enabled_39 : decode prog_8_method_25_code 39 = .ok (.iload 4, 2) := by decide +kernel
theorem d_Md_enabled_41 : decode prog_8_method_25_code 41 = .ok (.iaload, 1) := by decide +kernel
theorem d_Md_enabled_42 : decode prog_8_method_25_code 42 = .ok (.ifCond .le 7, 3) := by decide +kernel
theorem d_Md_enabled_45 : decode prog_8_method_25_code 45 = .ok (.iconst 1, 1) := by decide +kernel
theorem d_Md_enabled_46 : decode prog_8_method_25_code 46 = .ok (.goto 4, 3) := by decide +kernel
theorem d_Md_enabled_49 : decode prog_8_method_25_code 49 = .ok (.iconst 0, 1) := by decide +kernel
theorem d_Md_enabled_50 : decode prog_8_method_25_code 50 = .ok (.istore_n 3, 1) := by decide +kernel
theorem d_Md_enabled_51 : decode prog_8_method_25_code 51 = .ok (.iinc 4 1, 3) := by decide +kernel
theorem d_Md_enabled_54 : decode prog_8_method_25_code 54 = .ok (.goto (-41), 3) := by decide +kernel
theorem d_Md_enabled_57 : decode prog_8_method_25_code 57 = .ok (.iload_n 3, 1) := by decide +kernel
theorem d_Md_enabled_58 : decode prog_8_method_25_code 58 = .ok (.ireturn, 1) := by decide +kernel
set_option maxRecDepth 20000 in
set_option maxHeartbeats 4000000 in
theorem cD_enabled (E : fk_E) (b0 : Nat) (b1 : Nat) (b2 : Nat) (b3 : Nat) (b4 : Nat) (b5 : Nat) (b6 : Nat) (b7 : Nat) (b8 : Nat) (b9 : Nat) (b10 : Nat) (b11 : Nat) (b12 : Nat) (b13 : Nat) (b14 : Nat) (b15 : Nat) (mt : Nat) (mf : Nat) (my : Nat) (mw : Bool) (mc : Nat → Nat) (mi : Nat → Nat) (mu : Nat → Nat) (mfi : Nat → Nat) (mla : Nat → Nat) (mac : Nat → Nat) (tk : Nat → Nat) (q : Nat) (a : Nat) (x : Nat) (hN : fr_N mc mi mu mfi mla) (hm1 : mac 1 < 128) (hq : q < 2) (ha : a < 7) (hT : fr_T tk x) : fk_C E fy_Md_enabled prog_8_method_25_code 5 (some .boolean) 2 0 0 [.ref b0, .int (nI q), .int (nI a)] [(b0, .inr (6, [.int (nI mt), .ref b1, .ref b2, .ref b3, .ref b4, .ref b5, .ref b6, .ref b7, .ref b8, .ref b9, .int (nI mf), .ref b10, .ref b11, .ref b12, .int (nI my), .int (nI (Bool.toNat mw)), .ref b13, .ref b14, .ref b15])), fk_ai E b3 2 mc, fk_ai E b4 28 mi, fk_ai E b5 28 mu, fk_ai E b6 2 mfi, fk_ai E b7 2 mla, fk_ai E b8 2 mac, fk_ai E b12 16 tk] (S := Unit) (fun _ => some (.int (nI (Bool.toNat (fs_en (fr_O mc mu mfi q) (fr_me mc mi mu mfi mla mac q) x a))))) (fun _ => True) (fun _ => [(b0, .inr (6, [.int (nI mt), .ref b1, .ref b2, .ref b3, .ref b4, .ref b5, .ref b6, .ref b7, .ref b8, .ref b9, .int (nI mf), .ref b10, .ref b11, .ref b12, .int (nI my), .int (nI (Bool.toNat mw)), .ref b13, .ref b14, .ref b15])), fk_ai E b3 2 mc, fk_ai E b4 28 mi, fk_ai E b5 28 mu, fk_ai E b6 2 mfi, fk_ai E b7 2 mla, fk_ai E b8 2 mac, fk_ai E b12 16 tk]) := by
  refine fk_enterZ (v := fun _ => fs_en (fr_O mc mu mfi q) (fr_me mc mi mu mfi mla mac q) x a) (by decide) (Nat.le_of_ble_eq_true rfl) (lv0 := [(0, .ref b0), (1, .int (nI q)), (2, .int (nI a))]) rfl ?_
  intro K hini hret
  have g9 := fr_me_lt (q := q) hN hm1
  refine fk_aload_n 0 d_Md_enabled_0 rfl ?_
  refine fk_iload_n 1 d_Md_enabled_1 rfl ?_
  refine fk_callV (q0 := 0) (As := [.int (nI q)]) (rest := []) (is := [0, 1, 2, 3, 4, 5, 6]) (ir := [7]) (ip := [1, 2, 3, 4, 5, 6, 7, 0]) (wc := [(b0, .inr (6, [.int (nI mt), .ref b1, .ref b2, .ref b3, .ref b4, .ref b5, .ref b6, .ref b7, .ref b8, .ref b9, .int (nI mf), .ref b10, .ref b11, .ref b12, .int (nI my), .int (nI (Bool.toNat mw)), .ref b13, .ref b14, .ref b15])), fk_ai E b3 2 mc, fk_ai E b4 28 mi, fk_ai E b5 28 mu, fk_ai E b6 2 mfi, fk_ai E b7 2 mla, fk_ai E b8 2 mac]) (wr := [fk_ai E b12 16 tk]) (w2 := fun _ => [(b0, .inr (6, [.int (nI mt), .ref b1, .ref b2, .ref b3, .ref b4, .ref b5, .ref b6, .ref b7, .ref b8, .ref b9, .int (nI mf), .ref b10, .ref b11, .ref b12, .int (nI my), .int (nI (Bool.toNat mw)), .ref b13, .ref b14, .ref b15])), fk_ai E b3 2 mc, fk_ai E b4 28 mi, fk_ai E b5 28 mu, fk_ai E b6 2 mfi, fk_ai E b7 2 mla, fk_ai E b8 2 mac, fk_ai E b12 16 tk]) (cD_activities E b0 b1 b2 b3 b4 b5 b6 b7 b8 b9 b10 b11 b12 b13 b14 b15 mt mf my mw mc mi mu mfi mla mac q (by first | omega | assumption) (by first | omega | assumption)) d_Md_enabled_2 fz_Md_activities fw_650 rfl rfl fw_652 fw_p21 ⟨Nat.le_of_ble_eq_true rfl, Nat.le_of_ble_eq_true rfl⟩ rfl (Nat.le_of_ble_eq_true rfl) ⟨Nat.zero_le _, Nat.zero_le _⟩ ⟨rfl, rfl, rfl, rfl, by decide, fun _ => rfl, rfl⟩ (fun u hu2 => ?_)
  show fk_V E _ K (0, 0) [(b0, .inr (6, [.int (nI mt), .ref b1, .ref b2, .ref b3, .ref b4, .ref b5, .ref b6, .ref b7, .ref b8, .ref b9, .int (nI mf), .ref b10, .ref b11, .ref b12, .int (nI my), .int (nI (Bool.toNat mw)), .ref b13, .ref b14, .ref b15])), fk_ai E b3 2 mc, fk_ai E b4 28 mi, fk_ai E b5 28 mu, fk_ai E b6 2 mfi, fk_ai E b7 2 mla, fk_ai E b8 2 mac, fk_ai E b12 16 tk] 5 [(0, .ref b0), (1, .int (nI q)), (2, .int (nI a))] [.int (nI (fr_me mc mi mu mfi mla mac q))]
  refine fk_iload_n 2 d_Md_enabled_5 rfl ?_
  refine fk_callS (As := [.int (nI (fr_me mc mi mu mfi mla mac q)), .int (nI a)]) (rest := []) (is := []) (ir := [0, 1, 2, 3, 4, 5, 6, 7]) (ip := [0, 1, 2, 3, 4, 5, 6, 7]) (wc := []) (wr := [(b0, .inr (6, [.int (nI mt), .ref b1, .ref b2, .ref b3, .ref b4, .ref b5, .ref b6, .ref b7, .ref b8, .ref b9, .int (nI mf), .ref b10, .ref b11, .ref b12, .int (nI my), .int (nI (Bool.toNat mw)), .ref b13, .ref b14, .ref b15])), fk_ai E b3 2 mc, fk_ai E b4 28 mi, fk_ai E b5 28 mu, fk_ai E b6 2 mfi, fk_ai E b7 2 mla, fk_ai E b8 2 mac, fk_ai E b12 16 tk]) (w2 := fun _ => [(b0, .inr (6, [.int (nI mt), .ref b1, .ref b2, .ref b3, .ref b4, .ref b5, .ref b6, .ref b7, .ref b8, .ref b9, .int (nI mf), .ref b10, .ref b11, .ref b12, .int (nI my), .int (nI (Bool.toNat mw)), .ref b13, .ref b14, .ref b15])), fk_ai E b3 2 mc, fk_ai E b4 28 mi, fk_ai E b5 28 mu, fk_ai E b6 2 mfi, fk_ai E b7 2 mla, fk_ai E b8 2 mac, fk_ai E b12 16 tk]) (cD_has E (fr_me mc mi mu mfi mla mac q) a (by first | omega | assumption) (by first | omega | assumption)) d_Md_enabled_6 fz_Md_has fw_604 fw_605 ⟨Nat.le_of_ble_eq_true rfl, Nat.le_of_ble_eq_true rfl⟩ rfl (Nat.le_of_ble_eq_true rfl) ⟨Nat.zero_le _, Nat.zero_le _⟩ ⟨rfl, rfl, rfl, rfl, by decide, fun _ => rfl, rfl⟩ (fun u hu6 => ?_)
  show fk_V E _ K (0, 0) [(b0, .inr (6, [.int (nI mt), .ref b1, .ref b2, .ref b3, .ref b4, .ref b5, .ref b6, .ref b7, .ref b8, .ref b9, .int (nI mf), .ref b10, .ref b11, .ref b12, .int (nI my), .int (nI (Bool.toNat mw)), .ref b13, .ref b14, .ref b15])), fk_ai E b3 2 mc, fk_ai E b4 28 mi, fk_ai E b5 28 mu, fk_ai E b6 2 mfi, fk_ai E b7 2 mla, fk_ai E b8 2 mac, fk_ai E b12 16 tk] 9 [(0, .ref b0), (1, .int (nI q)), (2, .int (nI a))] [.int (nI (Bool.toNat (Nat.testBit (fr_me mc mi mu mfi mla mac q) a)))]
  refine fk_istore_n (lv' := [(0, .ref b0), (1, .int (nI q)), (2, .int (nI a)), (3, .int (nI (Bool.toNat (Nat.testBit (fr_me mc mi mu mfi mla mac q) a))))]) d_Md_enabled_9 rfl (Nat.le_of_ble_eq_true rfl) [1, 2, 3, 0] rfl ?_
  refine fk_iconst (v := nI 0) d_Md_enabled_10 (by decide +kernel) ?_
  refine fk_istore (lv' := [(0, .ref b0), (1, .int (nI q)), (2, .int (nI a)), (3, .int (nI (Bool.toNat (Nat.testBit (fr_me mc mi mu mfi mla mac q) a)))), (4, .int (nI 0))]) d_Md_enabled_11 (Nat.le_of_ble_eq_true rfl) [1, 2, 3, 4, 0] rfl ?_
  have L13 : ∀ (fuel : Nat) (b : Bool) (i : Nat), (i ≤ 16) → (b = (Nat.testBit (fr_me mc mi mu mfi mla mac q) a && fs_all (fun z => !(fs_tak (fr_O mc mu mfi q) a (fr_cp z)) || decide (0 < tk z)) i)) → 16 - i < fuel → fk_V E (prog_8_method_25_code, fy_Md_enabled.cls, 5, fk_rm 2 0 0) K (0, 0) [(b0, .inr (6, [.int (nI mt), .ref b1, .ref b2, .ref b3, .ref b4, .ref b5, .ref b6, .ref b7, .ref b8, .ref b9, .int (nI mf), .ref b10, .ref b11, .ref b12, .int (nI my), .int (nI (Bool.toNat mw)), .ref b13, .ref b14, .ref b15])), fk_ai E b3 2 mc, fk_ai E b4 28 mi, fk_ai E b5 28 mu, fk_ai E b6 2 mfi, fk_ai E b7 2 mla, fk_ai E b8 2 mac, fk_ai E b12 16 tk] 13 [(0, .ref b0), (1, .int (nI q)), (2, .int (nI a)), (3, .int (nI (Bool.toNat b))), (4, .int (nI i))] [] := by
    intro fuel
    induction fuel with
    | zero => intro b i _ _ hm; exact absurd hm (Nat.not_lt_zero _)
    | succ fuel ih =>
      intro b i h1 h2 hm13
      have ih13 := ih
      clear ih
      refine fk_iload 4 d_Md_enabled_13 rfl ?_
      refine fk_bipush (v := nI 16) d_Md_enabled_15 (by decide +kernel) ?_
      refine fk_icmp_ge (a := i) (b := 16) (by omega) (by omega) d_Md_enabled_17 rfl (fun h17t => ?_) (fun h17f => ?_)
      · refine fk_iload_n 3 d_Md_enabled_57 rfl ?_
        refine fk_top (congrArg (fun b : Bool => nI b.toNat) (show b = (fs_en (fr_O mc mu mfi q) (fr_me mc mi mu mfi mla mac q) x a) from by rw [h2, show i = 16 by omega, fr_can hT]; rfl)) ?_
        exact hret (0, 0) _ 58 _ () d_Md_enabled_58 (trivial) (rfl)
      · have g1 := fr_T_lt hT (show i < 16 by omega)
        refine fk_iload_n 3 d_Md_enabled_20 rfl ?_
        refine fk_if_eqB (b := b) d_Md_enabled_21 rfl (fun h21t => ?_) (fun h21f => ?_)
        · refine fk_iconst (v := nI 0) d_Md_enabled_49 (by decide +kernel) ?_
          refine fk_istore_n (lv' := [(0, .ref b0), (1, .int (nI q)), (2, .int (nI a)), (3, .int (nI 0)), (4, .int (nI i))]) d_Md_enabled_50 rfl (Nat.le_of_ble_eq_true rfl) [1, 2, 3, 0, 4] rfl ?_
          refine fk_iinc (j := 4) (lv' := [(0, .ref b0), (1, .int (nI q)), (2, .int (nI a)), (3, .int (nI 0)), (4, .int (nI (i + 1)))]) (i + 1) d_Md_enabled_51 rfl (nI_1 i) (Nat.le_of_ble_eq_true rfl) [1, 2, 3, 4, 0] rfl ?_
          refine fk_goto d_Md_enabled_54 rfl ?_
          refine ih13 false _ ?_ ?_ ?_
          · first | omega | assumption | exact Nat.zero_le _
          · rw [fs_all_s, ← Bool.and_assoc, ← h2]
            first | rw [h21t, Bool.false_and] | (rw [h21f, h32t]; rfl) | (rw [h21f, h32f, decide_eq_true h42f]; rfl) | (rw [h21f, h32f, decide_eq_false (show ¬ 0 < tk i by omega)]; rfl)
          · omega
        · refine fk_aload_n 0 d_Md_enabled_24 rfl ?_
          refine fk_iload_n 1 d_Md_enabled_25 rfl ?_
          refine fk_iload 4 d_Md_enabled_26 rfl ?_
          refine fk_iload_n 2 d_Md_enabled_28 rfl ?_
          refine fk_callV (q0 := 0) (As := [.int (nI q), .int (nI i), .int (nI a)]) (rest := []) (is := [0, 1, 3, 4]) (ir := [2, 5, 6, 7]) (ip := [4, 5, 0, 6, 7, 1, 2, 3]) (wc := [(b0, .inr (6, [.int (nI mt), .ref b1, .ref b2, .ref b3, .ref b4, .ref b5, .ref b6, .ref b7, .ref b8, .ref b9, .int (nI mf), .ref b10, .ref b11, .ref b12, .int (nI my), .int (nI (Bool.toNat mw)), .ref b13, .ref b14, .ref b15])), fk_ai E b3 2 mc, fk_ai E b5 28 mu, fk_ai E b6 2 mfi]) (wr := [fk_ai E b4 28 mi, fk_ai E b7 2 mla, fk_ai E b8 2 mac, fk_ai E b12 16 tk]) (w2 := fun _ => [(b0, .inr (6, [.int (nI mt), .ref b1, .ref b2, .ref b3, .ref b4, .ref b5, .ref b6, .ref b7, .ref b8, .ref b9, .int (nI mf), .ref b10, .ref b11, .ref b12, .int (nI my), .int (nI (Bool.toNat mw)), .ref b13, .ref b14, .ref b15])), fk_ai E b3 2 mc, fk_ai E b4 28 mi, fk_ai E b5 28 mu, fk_ai E b6 2 mfi, fk_ai E b7 2 mla, fk_ai E b8 2 mac, fk_ai E b12 16 tk]) (cD_takes E b0 b1 b2 b3 b4 b5 b6 b7 b8 b9 b10 b11 b12 b13 b14 b15 mt mf my mw mc mi mu mfi mla q i a (by first | omega | assumption) (by first | omega | assumption) (by first | omega | assumption) (by first | omega | assumption)) d_Md_enabled_29 fz_Md_takes fw_654 rfl rfl fw_656 fw_p22 ⟨Nat.le_of_ble_eq_true rfl, Nat.le_of_ble_eq_true rfl⟩ rfl (Nat.le_of_ble_eq_true rfl) ⟨Nat.zero_le _, Nat.zero_le _⟩ ⟨rfl, rfl, rfl, rfl, by decide, fun _ => rfl, rfl⟩ (fun u hu29 => ?_)
          show fk_V E _ K (0, 0) [(b0, .inr (6, [.int (nI mt), .ref b1, .ref b2, .ref b3, .ref b4, .ref b5, .ref b6, .ref b7, .ref b8, .ref b9, .int (nI mf), .ref b10, .ref b11, .ref b12, .int (nI my), .int (nI (Bool.toNat mw)), .ref b13, .ref b14, .ref b15])), fk_ai E b3 2 mc, fk_ai E b4 28 mi, fk_ai E b5 28 mu, fk_ai E b6 2 mfi, fk_ai E b7 2 mla, fk_ai E b8 2 mac, fk_ai E b12 16 tk] 32 [(0, .ref b0), (1, .int (nI q)), (2, .int (nI a)), (3, .int (nI (Bool.toNat b))), (4, .int (nI i))] [.int (nI (Bool.toNat (fs_tak (fr_O mc mu mfi q) a (fr_cp i))))]
          refine fk_if_eqB (b := (fs_tak (fr_O mc mu mfi q) a (fr_cp i))) d_Md_enabled_32 rfl (fun h32t => ?_) (fun h32f => ?_)
          · refine fk_iconst (v := nI 1) d_Md_enabled_45 (by decide +kernel) ?_
            refine fk_goto d_Md_enabled_46 rfl ?_
            refine fk_istore_n (lv' := [(0, .ref b0), (1, .int (nI q)), (2, .int (nI a)), (3, .int (nI 1)), (4, .int (nI i))]) d_Md_enabled_50 rfl (Nat.le_of_ble_eq_true rfl) [1, 2, 3, 0, 4] rfl ?_
            refine fk_iinc (j := 4) (lv' := [(0, .ref b0), (1, .int (nI q)), (2, .int (nI a)), (3, .int (nI 1)), (4, .int (nI (i + 1)))]) (i + 1) d_Md_enabled_51 rfl (nI_1 i) (Nat.le_of_ble_eq_true rfl) [1, 2, 3, 4, 0] rfl ?_
            refine fk_goto d_Md_enabled_54 rfl ?_
            refine ih13 true _ ?_ ?_ ?_
            · first | omega | assumption | exact Nat.zero_le _
            · rw [fs_all_s, ← Bool.and_assoc, ← h2]
              first | rw [h21t, Bool.false_and] | (rw [h21f, h32t]; rfl) | (rw [h21f, h32f, decide_eq_true h42f]; rfl) | (rw [h21f, h32f, decide_eq_false (show ¬ 0 < tk i by omega)]; rfl)
            · omega
          · refine fk_aload_n 0 d_Md_enabled_35 rfl ?_
            refine fk_get 0 13 rfl rfl fh_Md (Nat.le_of_ble_eq_true rfl) fw_520 rfl d_Md_enabled_36 ?_
            refine fk_iload 4 d_Md_enabled_39 rfl ?_
            refine fk_ld_ai (i := i) 7 rfl (by omega) (by decide) d_Md_enabled_41 ?_
            refine fk_if_le (a := (tk i)) (by omega) d_Md_enabled_42 rfl (fun h42t => ?_) (fun h42f => ?_)
            · refine fk_iconst (v := nI 0) d_Md_enabled_49 (by decide +kernel) ?_
              refine fk_istore_n (lv' := [(0, .ref b0), (1, .int (nI q)), (2, .int (nI a)), (3, .int (nI 0)), (4, .int (nI i))]) d_Md_enabled_50 rfl (Nat.le_of_ble_eq_true rfl) [1, 2, 3, 0, 4] rfl ?_
              refine fk_iinc (j := 4) (lv' := [(0, .ref b0), (1, .int (nI q)), (2, .int (nI a)), (3, .int (nI 0)), (4, .int (nI (i + 1)))]) (i + 1) d_Md_enabled_51 rfl (nI_1 i) (Nat.le_of_ble_eq_true rfl) [1, 2, 3, 4, 0] rfl ?_
              refine fk_goto d_Md_enabled_54 rfl ?_
              refine ih13 false _ ?_ ?_ ?_
              · first | omega | assumption | exact Nat.zero_le _
              · rw [fs_all_s, ← Bool.and_assoc, ← h2]
                first | rw [h21t, Bool.false_and] | (rw [h21f, h32t]; rfl) | (rw [h21f, h32f, decide_eq_true h42f]; rfl) | (rw [h21f, h32f, decide_eq_false (show ¬ 0 < tk i by omega)]; rfl)
              · omega
            · refine fk_iconst (v := nI 1) d_Md_enabled_45 (by decide +kernel) ?_
              refine fk_goto d_Md_enabled_46 rfl ?_
              refine fk_istore_n (lv' := [(0, .ref b0), (1, .int (nI q)), (2, .int (nI a)), (3, .int (nI 1)), (4, .int (nI i))]) d_Md_enabled_50 rfl (Nat.le_of_ble_eq_true rfl) [1, 2, 3, 0, 4] rfl ?_
              refine fk_iinc (j := 4) (lv' := [(0, .ref b0), (1, .int (nI q)), (2, .int (nI a)), (3, .int (nI 1)), (4, .int (nI (i + 1)))]) (i + 1) d_Md_enabled_51 rfl (nI_1 i) (Nat.le_of_ble_eq_true rfl) [1, 2, 3, 4, 0] rfl ?_
              refine fk_goto d_Md_enabled_54 rfl ?_
              refine ih13 true _ ?_ ?_ ?_
              · first | omega | assumption | exact Nat.zero_le _
              · rw [fs_all_s, ← Bool.and_assoc, ← h2]
                first | rw [h21t, Bool.false_and] | (rw [h21f, h32t]; rfl) | (rw [h21f, h32f, decide_eq_true h42f]; rfl) | (rw [h21f, h32f, decide_eq_false (show ¬ 0 < tk i by omega)]; rfl)
              · omega
  refine L13 _ _ _ ?_ ?_ (Nat.lt_succ_self _)
  · first | omega | assumption | exact Nat.zero_le _
  · exact (Bool.and_true _).symm
theorem d_Md_fire_0 : decode prog_8_method_26_code 0 = .ok (.iconst 0, 1) := by decide +kernel
theorem d_Md_fire_1 : decode prog_8_method_26_code 1 = .ok (.istore_n 3, 1) := by decide +kernel
theorem d_Md_fire_2 : decode prog_8_method_26_code 2 = .ok (.iload_n 3, 1) := by decide +kernel
theorem d_Md_fire_3 : decode prog_8_method_26_code 3 = .ok (.bipush 16, 2) := by decide +kernel
theorem d_Md_fire_5 : decode prog_8_method_26_code 5 = .ok (.if_icmp .ge 49, 3) := by decide +kernel
theorem d_Md_fire_8 : decode prog_8_method_26_code 8 = .ok (.aload_n 0, 1) := by decide +kernel
theorem d_Md_fire_9 : decode prog_8_method_26_code 9 = .ok (.getfield 43, 3) := by decide +kernel
theorem d_Md_fire_12 : decode prog_8_method_26_code 12 = .ok (.iload_n 3, 1) := by decide +kernel
theorem d_Md_fire_13 : decode prog_8_method_26_code 13 = .ok (.dup2, 1) := by decide +kernel
theorem d_Md_fire_14 : decode prog_8_method_26_code 14 = .ok (.iaload, 1) := by decide +kernel
theorem d_Md_fire_15 : decode prog_8_method_26_code 15 = .ok (.aload_n 0, 1) := by decide +kernel
theorem d_Md_fire_16 : decode prog_8_method_26_code 16 = .ok (.iload_n 1, 1) := by decide +kernel
theorem d_Md_fire_17 : decode prog_8_method_26_code 17 = .ok (.iload_n 3, 1) := by decide +kernel
theorem d_Md_fire_18 : decode prog_8_method_26_code 18 = .ok (.iload_n 2, 1) := by decide +kernel
theorem d_Md_fire_19 : decode prog_8_method_26_code 19 = .ok (.invokevirtual 94, 3) := by decide +kernel
theorem d_Md_fire_22 : decode prog_8_method_26_code 22 = .ok (.ifCond .eq 7, 3) := by decide +kernel
theorem d_Md_fire_25 : decode prog_8_method_26_code 25 = .ok (.iconst 1, 1) := by decide +kernel
theorem d_Md_fire_26 : decode prog_8_method_26_code 26 = .ok (.goto 4, 3) := by decide +kernel
theorem d_Md_fire_29 : decode prog_8_method_26_code 29 = .ok (.iconst 0, 1) := by decide +kernel
theorem d_Md_fire_30 : decode prog_8_method_26_code 30 = .ok (.aload_n 0, 1) := by decide +kernel
theorem d_Md_fire_31 : decode prog_8_method_26_code 31 = .ok (.iload_n 1, 1) := by decide +kernel
theorem d_Md_fire_32 : decode prog_8_method_26_code 32 = .ok (.iload_n 3, 1) := by decide +kernel
theorem d_Md_fire_33 : decode prog_8_method_26_code 33 = .ok (.iload_n 2, 1) := by decide +kernel
theorem d_Md_fire_34 : decode prog_8_method_26_code 34 = .ok (.invokevirtual 90, 3) := by decide +kernel
theorem d_Md_fire_37 : decode prog_8_method_26_code 37 = .ok (.ifCond .eq 7, 3) := by decide +kernel
theorem d_Md_fire_40 : decode prog_8_method_26_code 40 = .ok (.iconst 1, 1) := by decide +kernel
theorem d_Md_fire_41 : decode prog_8_method_26_code 41 = .ok (.goto 4, 3) := by decide +kernel
theorem d_Md_fire_44 : decode prog_8_method_26_code 44 = .ok (.iconst 0, 1) := by decide +kernel
theorem d_Md_fire_45 : decode prog_8_method_26_code 45 = .ok (.isub, 1) := by decide +kernel
theorem d_Md_fire_46 : decode prog_8_method_26_code 46 = .ok (.iadd, 1) := by decide +kernel
theorem d_Md_fire_47 : decode prog_8_method_26_code 47 = .ok (.iastore, 1) := by decide +kernel
theorem d_Md_fire_48 : decode prog_8_method_26_code 48 = .ok (.iinc 3 1, 3) := by decide +kernel
theorem d_Md_fire_51 : decode prog_8_method_26_code 51 = .ok (.goto (-49), 3) := by decide +kernel
theorem d_Md_fire_54 : decode prog_8_method_26_code 54 = .ok (.return_, 1) := by decide +kernel
set_option maxRecDepth 20000 in
set_option maxHeartbeats 4000000 in
theorem cD_fire (E : fk_E) (b0 : Nat) (b1 : Nat) (b2 : Nat) (b3 : Nat) (b4 : Nat) (b5 : Nat) (b6 : Nat) (b7 : Nat) (b8 : Nat) (b9 : Nat) (b10 : Nat) (b11 : Nat) (b12 : Nat) (b13 : Nat) (b14 : Nat) (b15 : Nat) (mt : Nat) (mf : Nat) (my : Nat) (mw : Bool) (mc : Nat → Nat) (mi : Nat → Nat) (mu : Nat → Nat) (mfi : Nat → Nat) (mla : Nat → Nat) (mac : Nat → Nat) (tk : Nat → Nat) (q : Nat) (a : Nat) (x : Nat) (hN : fr_N mc mi mu mfi mla) (hq : q < 2) (ha : a < 7) (hT : fr_T tk x) (hc : fs_can (fr_O mc mu mfi q) x a = true) : fk_C E fy_Md_fire prog_8_method_26_code 4 none 2 0 0 [.ref b0, .int (nI q), .int (nI a)] [(b0, .inr (6, [.int (nI mt), .ref b1, .ref b2, .ref b3, .ref b4, .ref b5, .ref b6, .ref b7, .ref b8, .ref b9, .int (nI mf), .ref b10, .ref b11, .ref b12, .int (nI my), .int (nI (Bool.toNat mw)), .ref b13, .ref b14, .ref b15])), fk_ai E b3 2 mc, fk_ai E b4 28 mi, fk_ai E b5 28 mu, fk_ai E b6 2 mfi, fk_ai E b7 2 mla, fk_ai E b12 16 tk] (S := (Nat → Nat)) (fun (u : (Nat → Nat)) => none) (fun (u : (Nat → Nat)) => ∀ z, z < 16 → u z = fm_dg x (fr_cp z) - Bool.toNat (fs_tak (fr_O mc mu mfi q) a (fr_cp z)) + Bool.toNat (fs_tak (fr_I mc mi mla q) a (fr_cp z))) (fun (u : (Nat → Nat)) => [(b0, .inr (6, [.int (nI mt), .ref b1, .ref b2, .ref b3, .ref b4, .ref b5, .ref b6, .ref b7, .ref b8, .ref b9, .int (nI mf), .ref b10, .ref b11, .ref b12, .int (nI my), .int (nI (Bool.toNat mw)), .ref b13, .ref b14, .ref b15])), fk_ai E b3 2 mc, fk_ai E b4 28 mi, fk_ai E b5 28 mu, fk_ai E b6 2 mfi, fk_ai E b7 2 mla, fk_ai E b12 16 u]) := by
  refine fk_enterV (by decide) (Nat.le_of_ble_eq_true rfl) (lv0 := [(0, .ref b0), (1, .int (nI q)), (2, .int (nI a))]) rfl ?_
  intro K hini hret
  refine fk_iconst (v := nI 0) d_Md_fire_0 (by decide +kernel) ?_
  refine fk_istore_n (lv' := [(0, .ref b0), (1, .int (nI q)), (2, .int (nI a)), (3, .int (nI 0))]) d_Md_fire_1 rfl (Nat.le_of_ble_eq_true rfl) [1, 2, 3, 0] rfl ?_
  have L2 : ∀ (fuel : Nat) (i : Nat) (t1 : Nat → Nat), (i ≤ 16) → (∀ z, z < i → t1 z = fm_dg x (fr_cp z) - Bool.toNat (fs_tak (fr_O mc mu mfi q) a (fr_cp z)) + Bool.toNat (fs_tak (fr_I mc mi mla q) a (fr_cp z))) → (∀ z, i ≤ z → z < 16 → t1 z = tk z) → 16 - i < fuel → fk_V E (prog_8_method_26_code, fy_Md_fire.cls, 4, fk_rm 2 0 0) K (0, 0) [(b0, .inr (6, [.int (nI mt), .ref b1, .ref b2, .ref b3, .ref b4, .ref b5, .ref b6, .ref b7, .ref b8, .ref b9, .int (nI mf), .ref b10, .ref b11, .ref b12, .int (nI my), .int (nI (Bool.toNat mw)), .ref b13, .ref b14, .ref b15])), fk_ai E b3 2 mc, fk_ai E b4 28 mi, fk_ai E b5 28 mu, fk_ai E b6 2 mfi, fk_ai E b7 2 mla, fk_ai E b12 16 t1] 2 [(0, .ref b0), (1, .int (nI q)), (2, .int (nI a)), (3, .int (nI i))] [] := by
    intro fuel
    induction fuel with
    | zero => intro i t1 _ _ _ hm; exact absurd hm (Nat.not_lt_zero _)
    | succ fuel ih =>
      intro i t1 h1 h2 h3 hm2
      have ih2 := ih
      clear ih
      refine fk_iload_n 3 d_Md_fire_2 rfl ?_
      refine fk_bipush (v := nI 16) d_Md_fire_3 (by decide +kernel) ?_
      refine fk_icmp_ge (a := i) (b := 16) (by omega) (by omega) d_Md_fire_5 rfl (fun h5t => ?_) (fun h5f => ?_)
      · have hpp : ∀ z, z < 16 → t1 z = fm_dg x (fr_cp z) - Bool.toNat (fs_tak (fr_O mc mu mfi q) a (fr_cp z)) + Bool.toNat (fs_tak (fr_I mc mi mla q) a (fr_cp z)) := fun z hz => h2 z (by omega)
        exact hret (0, 0) _ 54 _ t1 d_Md_fire_54 (hpp) (rfl)
      · have g2 : Bool.toNat (fs_tak (fr_O mc mu mfi q) a (fr_cp i)) ≤ t1 i := by
          rw [h3 i (Nat.le_refl _) h5f, hT i h5f]
          exact fm_b_le (fs_can_iff.mp hc _ (fr_cp_lt h5f))
        refine fk_aload_n 0 d_Md_fire_8 rfl ?_
        refine fk_get 0 13 rfl rfl fh_Md (Nat.le_of_ble_eq_true rfl) fw_520 rfl d_Md_fire_9 ?_
        refine fk_iload_n 3 d_Md_fire_12 rfl ?_
        refine fk_dup2 d_Md_fire_13 rfl rfl ?_
        refine fk_ld_ai (i := i) 6 rfl (by omega) (by decide) d_Md_fire_14 ?_
        refine fk_aload_n 0 d_Md_fire_15 rfl ?_
        refine fk_iload_n 1 d_Md_fire_16 rfl ?_
        refine fk_iload_n 3 d_Md_fire_17 rfl ?_
        refine fk_iload_n 2 d_Md_fire_18 rfl ?_
        refine fk_callV (q0 := 0) (As := [.int (nI q), .int (nI i), .int (nI a)]) (rest := [.int (nI (t1 i)), .int (nI i), .ref b12]) (is := [0, 1, 2, 5]) (ir := [3, 4, 6]) (ip := [3, 4, 5, 0, 1, 6, 2]) (wc := [(b0, .inr (6, [.int (nI mt), .ref b1, .ref b2, .ref b3, .ref b4, .ref b5, .ref b6, .ref b7, .ref b8, .ref b9, .int (nI mf), .ref b10, .ref b11, .ref b12, .int (nI my), .int (nI (Bool.toNat mw)), .ref b13, .ref b14, .ref b15])), fk_ai E b3 2 mc, fk_ai E b4 28 mi, fk_ai E b7 2 mla]) (wr := [fk_ai E b5 28 mu, fk_ai E b6 2 mfi, fk_ai E b12 16 t1]) (w2 := fun _ => [(b0, .inr (6, [.int (nI mt), .ref b1, .ref b2, .ref b3, .ref b4, .ref b5, .ref b6, .ref b7, .ref b8, .ref b9, .int (nI mf), .ref b10, .ref b11, .ref b12, .int (nI my), .int (nI (Bool.toNat mw)), .ref b13, .ref b14, .ref b15])), fk_ai E b3 2 mc, fk_ai E b4 28 mi, fk_ai E b5 28 mu, fk_ai E b6 2 mfi, fk_ai E b7 2 mla, fk_ai E b12 16 t1]) (cD_gives E b0 b1 b2 b3 b4 b5 b6 b7 b8 b9 b10 b11 b12 b13 b14 b15 mt mf my mw mc mi mu mfi mla q i a (by first | omega | assumption) (by first | omega | assumption) (by first | omega | assumption) (by first | omega | assumption)) d_Md_fire_19 fz_Md_gives fw_662 rfl rfl fw_664 fw_p24 ⟨Nat.le_of_ble_eq_true rfl, Nat.le_of_ble_eq_true rfl⟩ rfl (Nat.le_of_ble_eq_true rfl) ⟨Nat.zero_le _, Nat.zero_le _⟩ ⟨rfl, rfl, rfl, rfl, by decide, fun _ => rfl, rfl⟩ (fun u hu19 => ?_)
        show fk_V E _ K (0, 0) [(b0, .inr (6, [.int (nI mt), .ref b1, .ref b2, .ref b3, .ref b4, .ref b5, .ref b6, .ref b7, .ref b8, .ref b9, .int (nI mf), .ref b10, .ref b11, .ref b12, .int (nI my), .int (nI (Bool.toNat mw)), .ref b13, .ref b14, .ref b15])), fk_ai E b3 2 mc, fk_ai E b4 28 mi, fk_ai E b5 28 mu, fk_ai E b6 2 mfi, fk_ai E b7 2 mla, fk_ai E b12 16 t1] 22 [(0, .ref b0), (1, .int (nI q)), (2, .int (nI a)), (3, .int (nI i))] [.int (nI (Bool.toNat (fs_tak (fr_I mc mi mla q) a (fr_cp i)))), .int (nI (t1 i)), .int (nI i), .ref b12]
        refine fk_if_eqB (b := (fs_tak (fr_I mc mi mla q) a (fr_cp i))) d_Md_fire_22 rfl (fun h22t => ?_) (fun h22f => ?_)
        · refine fk_iconst (v := nI 0) d_Md_fire_29 (by decide +kernel) ?_
          refine fk_aload_n 0 d_Md_fire_30 rfl ?_
          refine fk_iload_n 1 d_Md_fire_31 rfl ?_
          refine fk_iload_n 3 d_Md_fire_32 rfl ?_
          refine fk_iload_n 2 d_Md_fire_33 rfl ?_
          refine fk_callV (q0 := 0) (As := [.int (nI q), .int (nI i), .int (nI a)]) (rest := [.int (nI 0), .int (nI (t1 i)), .int (nI i), .ref b12]) (is := [0, 1, 3, 4]) (ir := [2, 5, 6]) (ip := [3, 4, 0, 5, 6, 1, 2]) (wc := [(b0, .inr (6, [.int (nI mt), .ref b1, .ref b2, .ref b3, .ref b4, .ref b5, .ref b6, .ref b7, .ref b8, .ref b9, .int (nI mf), .ref b10, .ref b11, .ref b12, .int (nI my), .int (nI (Bool.toNat mw)), .ref b13, .ref b14, .ref b15])), fk_ai E b3 2 mc, fk_ai E b5 28 mu, fk_ai E b6 2 mfi]) (wr := [fk_ai E b4 28 mi, fk_ai E b7 2 mla, fk_ai E b12 16 t1]) (w2 := fun _ => [(b0, .inr (6, [.int (nI mt), .ref b1, .ref b2, .ref b3, .ref b4, .ref b5, .ref b6, .ref b7, .ref b8, .ref b9, .int (nI mf), .ref b10, .ref b11, .ref b12, .int (nI my), .int (nI (Bool.toNat mw)), .ref b13, .ref b14, .ref b15])), fk_ai E b3 2 mc, fk_ai E b4 28 mi, fk_ai E b5 28 mu, fk_ai E b6 2 mfi, fk_ai E b7 2 mla, fk_ai E b12 16 t1]) (cD_takes E b0 b1 b2 b3 b4 b5 b6 b7 b8 b9 b10 b11 b12 b13 b14 b15 mt mf my mw mc mi mu mfi mla q i a (by first | omega | assumption) (by first | omega | assumption) (by first | omega | assumption) (by first | omega | assumption)) d_Md_fire_34 fz_Md_takes fw_654 rfl rfl fw_656 fw_p22 ⟨Nat.le_of_ble_eq_true rfl, Nat.le_of_ble_eq_true rfl⟩ rfl (Nat.le_of_ble_eq_true rfl) ⟨Nat.zero_le _, Nat.zero_le _⟩ ⟨rfl, rfl, rfl, rfl, by decide, fun _ => rfl, rfl⟩ (fun u hu34 => ?_)
          show fk_V E _ K (0, 0) [(b0, .inr (6, [.int (nI mt), .ref b1, .ref b2, .ref b3, .ref b4, .ref b5, .ref b6, .ref b7, .ref b8, .ref b9, .int (nI mf), .ref b10, .ref b11, .ref b12, .int (nI my), .int (nI (Bool.toNat mw)), .ref b13, .ref b14, .ref b15])), fk_ai E b3 2 mc, fk_ai E b4 28 mi, fk_ai E b5 28 mu, fk_ai E b6 2 mfi, fk_ai E b7 2 mla, fk_ai E b12 16 t1] 37 [(0, .ref b0), (1, .int (nI q)), (2, .int (nI a)), (3, .int (nI i))] [.int (nI (Bool.toNat (fs_tak (fr_O mc mu mfi q) a (fr_cp i)))), .int (nI 0), .int (nI (t1 i)), .int (nI i), .ref b12]
          refine fk_if_eqB (b := (fs_tak (fr_O mc mu mfi q) a (fr_cp i))) d_Md_fire_37 rfl (fun h37t => ?_) (fun h37f => ?_)
          · refine fk_iconst (v := nI 0) d_Md_fire_44 (by decide +kernel) ?_
            refine fk_isubR d_Md_fire_45 ?_
            refine fk_iaddR d_Md_fire_46 ?_
            refine fk_top (show ((nI (t1 i)) + ((nI 0) - (nI 0))) = (nI (t1 i - Bool.toNat (fs_tak (fr_O mc mu mfi q) a (fr_cp i)) + Bool.toNat (fs_tak (fr_I mc mi mla q) a (fr_cp i)))) from by first | (rw [h22t, h37t]; exact fr_ar (t := false) (g := false) (by rw [← h37t]; exact g2)) | (rw [h22t, h37f]; exact fr_ar (t := true) (g := false) (by rw [← h37f]; exact g2)) | (rw [h22f, h37t]; exact fr_ar (t := false) (g := true) (by rw [← h37t]; exact g2)) | (rw [h22f, h37f]; exact fr_ar (t := true) (g := true) (by rw [← h37f]; exact g2))) ?_
            refine fk_st_ai (i := i) (x := (t1 i - Bool.toNat (fs_tak (fr_O mc mu mfi q) a (fr_cp i)) + Bool.toNat (fs_tak (fr_I mc mi mla q) a (fr_cp i)))) (w' := [(b0, .inr (6, [.int (nI mt), .ref b1, .ref b2, .ref b3, .ref b4, .ref b5, .ref b6, .ref b7, .ref b8, .ref b9, .int (nI mf), .ref b10, .ref b11, .ref b12, .int (nI my), .int (nI (Bool.toNat mw)), .ref b13, .ref b14, .ref b15])), fk_ai E b3 2 mc, fk_ai E b4 28 mi, fk_ai E b5 28 mu, fk_ai E b6 2 mfi, fk_ai E b7 2 mla, fk_ai E b12 16 (va_up t1 i (t1 i - Bool.toNat (fs_tak (fr_O mc mu mfi q) a (fr_cp i)) + Bool.toNat (fs_tak (fr_I mc mi mla q) a (fr_cp i))))]) 6 rfl (by omega) (by decide) d_Md_fire_47 rfl ?_
            refine fk_iinc (j := 3) (lv' := [(0, .ref b0), (1, .int (nI q)), (2, .int (nI a)), (3, .int (nI (i + 1)))]) (i + 1) d_Md_fire_48 rfl (nI_1 i) (Nat.le_of_ble_eq_true rfl) [1, 2, 3, 0] rfl ?_
            refine fk_goto d_Md_fire_51 rfl ?_
            refine ih2 _ _ ?_ ?_ ?_ ?_
            · first | omega | assumption | exact Nat.zero_le _
            · intro z hz
              rcases Nat.lt_or_ge z i with w | w
              · rw [va_up_ne _ _ (by omega)]; exact h2 z w
              · rw [show z = i by omega, va_up_self, h3 i (Nat.le_refl _) h5f, hT i h5f]
            · intro z hz hz2
              rw [va_up_ne _ _ (by omega)]
              exact h3 z (by omega) hz2
            · omega
          · refine fk_iconst (v := nI 1) d_Md_fire_40 (by decide +kernel) ?_
            refine fk_goto d_Md_fire_41 rfl ?_
            refine fk_isubR d_Md_fire_45 ?_
            refine fk_iaddR d_Md_fire_46 ?_
            refine fk_top (show ((nI (t1 i)) + ((nI 0) - (nI 1))) = (nI (t1 i - Bool.toNat (fs_tak (fr_O mc mu mfi q) a (fr_cp i)) + Bool.toNat (fs_tak (fr_I mc mi mla q) a (fr_cp i)))) from by first | (rw [h22t, h37t]; exact fr_ar (t := false) (g := false) (by rw [← h37t]; exact g2)) | (rw [h22t, h37f]; exact fr_ar (t := true) (g := false) (by rw [← h37f]; exact g2)) | (rw [h22f, h37t]; exact fr_ar (t := false) (g := true) (by rw [← h37t]; exact g2)) | (rw [h22f, h37f]; exact fr_ar (t := true) (g := true) (by rw [← h37f]; exact g2))) ?_
            refine fk_st_ai (i := i) (x := (t1 i - Bool.toNat (fs_tak (fr_O mc mu mfi q) a (fr_cp i)) + Bool.toNat (fs_tak (fr_I mc mi mla q) a (fr_cp i)))) (w' := [(b0, .inr (6, [.int (nI mt), .ref b1, .ref b2, .ref b3, .ref b4, .ref b5, .ref b6, .ref b7, .ref b8, .ref b9, .int (nI mf), .ref b10, .ref b11, .ref b12, .int (nI my), .int (nI (Bool.toNat mw)), .ref b13, .ref b14, .ref b15])), fk_ai E b3 2 mc, fk_ai E b4 28 mi, fk_ai E b5 28 mu, fk_ai E b6 2 mfi, fk_ai E b7 2 mla, fk_ai E b12 16 (va_up t1 i (t1 i - Bool.toNat (fs_tak (fr_O mc mu mfi q) a (fr_cp i)) + Bool.toNat (fs_tak (fr_I mc mi mla q) a (fr_cp i))))]) 6 rfl (by omega) (by decide) d_Md_fire_47 rfl ?_
            refine fk_iinc (j := 3) (lv' := [(0, .ref b0), (1, .int (nI q)), (2, .int (nI a)), (3, .int (nI (i + 1)))]) (i + 1) d_Md_fire_48 rfl (nI_1 i) (Nat.le_of_ble_eq_true rfl) [1, 2, 3, 0] rfl ?_
            refine fk_goto d_Md_fire_51 rfl ?_
            refine ih2 _ _ ?_ ?_ ?_ ?_
            · first | omega | assumption | exact Nat.zero_le _
            · intro z hz
              rcases Nat.lt_or_ge z i with w | w
              · rw [va_up_ne _ _ (by omega)]; exact h2 z w
              · rw [show z = i by omega, va_up_self, h3 i (Nat.le_refl _) h5f, hT i h5f]
            · intro z hz hz2
              rw [va_up_ne _ _ (by omega)]
              exact h3 z (by omega) hz2
            · omega
        · refine fk_iconst (v := nI 1) d_Md_fire_25 (by decide +kernel) ?_
          refine fk_goto d_Md_fire_26 rfl ?_
          refine fk_aload_n 0 d_Md_fire_30 rfl ?_
          refine fk_iload_n 1 d_Md_fire_31 rfl ?_
          refine fk_iload_n 3 d_Md_fire_32 rfl ?_
          refine fk_iload_n 2 d_Md_fire_33 rfl ?_
          refine fk_callV (q0 := 0) (As := [.int (nI q), .int (nI i), .int (nI a)]) (rest := [.int (nI 1), .int (nI (t1 i)), .int (nI i), .ref b12]) (is := [0, 1, 3, 4]) (ir := [2, 5, 6]) (ip := [3, 4, 0, 5, 6, 1, 2]) (wc := [(b0, .inr (6, [.int (nI mt), .ref b1, .ref b2, .ref b3, .ref b4, .ref b5, .ref b6, .ref b7, .ref b8, .ref b9, .int (nI mf), .ref b10, .ref b11, .ref b12, .int (nI my), .int (nI (Bool.toNat mw)), .ref b13, .ref b14, .ref b15])), fk_ai E b3 2 mc, fk_ai E b5 28 mu, fk_ai E b6 2 mfi]) (wr := [fk_ai E b4 28 mi, fk_ai E b7 2 mla, fk_ai E b12 16 t1]) (w2 := fun _ => [(b0, .inr (6, [.int (nI mt), .ref b1, .ref b2, .ref b3, .ref b4, .ref b5, .ref b6, .ref b7, .ref b8, .ref b9, .int (nI mf), .ref b10, .ref b11, .ref b12, .int (nI my), .int (nI (Bool.toNat mw)), .ref b13, .ref b14, .ref b15])), fk_ai E b3 2 mc, fk_ai E b4 28 mi, fk_ai E b5 28 mu, fk_ai E b6 2 mfi, fk_ai E b7 2 mla, fk_ai E b12 16 t1]) (cD_takes E b0 b1 b2 b3 b4 b5 b6 b7 b8 b9 b10 b11 b12 b13 b14 b15 mt mf my mw mc mi mu mfi mla q i a (by first | omega | assumption) (by first | omega | assumption) (by first | omega | assumption) (by first | omega | assumption)) d_Md_fire_34 fz_Md_takes fw_654 rfl rfl fw_656 fw_p22 ⟨Nat.le_of_ble_eq_true rfl, Nat.le_of_ble_eq_true rfl⟩ rfl (Nat.le_of_ble_eq_true rfl) ⟨Nat.zero_le _, Nat.zero_le _⟩ ⟨rfl, rfl, rfl, rfl, by decide, fun _ => rfl, rfl⟩ (fun u hu34 => ?_)
          show fk_V E _ K (0, 0) [(b0, .inr (6, [.int (nI mt), .ref b1, .ref b2, .ref b3, .ref b4, .ref b5, .ref b6, .ref b7, .ref b8, .ref b9, .int (nI mf), .ref b10, .ref b11, .ref b12, .int (nI my), .int (nI (Bool.toNat mw)), .ref b13, .ref b14, .ref b15])), fk_ai E b3 2 mc, fk_ai E b4 28 mi, fk_ai E b5 28 mu, fk_ai E b6 2 mfi, fk_ai E b7 2 mla, fk_ai E b12 16 t1] 37 [(0, .ref b0), (1, .int (nI q)), (2, .int (nI a)), (3, .int (nI i))] [.int (nI (Bool.toNat (fs_tak (fr_O mc mu mfi q) a (fr_cp i)))), .int (nI 1), .int (nI (t1 i)), .int (nI i), .ref b12]
          refine fk_if_eqB (b := (fs_tak (fr_O mc mu mfi q) a (fr_cp i))) d_Md_fire_37 rfl (fun h37t => ?_) (fun h37f => ?_)
          · refine fk_iconst (v := nI 0) d_Md_fire_44 (by decide +kernel) ?_
            refine fk_isubR d_Md_fire_45 ?_
            refine fk_iaddR d_Md_fire_46 ?_
            refine fk_top (show ((nI (t1 i)) + ((nI 1) - (nI 0))) = (nI (t1 i - Bool.toNat (fs_tak (fr_O mc mu mfi q) a (fr_cp i)) + Bool.toNat (fs_tak (fr_I mc mi mla q) a (fr_cp i)))) from by first | (rw [h22t, h37t]; exact fr_ar (t := false) (g := false) (by rw [← h37t]; exact g2)) | (rw [h22t, h37f]; exact fr_ar (t := true) (g := false) (by rw [← h37f]; exact g2)) | (rw [h22f, h37t]; exact fr_ar (t := false) (g := true) (by rw [← h37t]; exact g2)) | (rw [h22f, h37f]; exact fr_ar (t := true) (g := true) (by rw [← h37f]; exact g2))) ?_
            refine fk_st_ai (i := i) (x := (t1 i - Bool.toNat (fs_tak (fr_O mc mu mfi q) a (fr_cp i)) + Bool.toNat (fs_tak (fr_I mc mi mla q) a (fr_cp i)))) (w' := [(b0, .inr (6, [.int (nI mt), .ref b1, .ref b2, .ref b3, .ref b4, .ref b5, .ref b6, .ref b7, .ref b8, .ref b9, .int (nI mf), .ref b10, .ref b11, .ref b12, .int (nI my), .int (nI (Bool.toNat mw)), .ref b13, .ref b14, .ref b15])), fk_ai E b3 2 mc, fk_ai E b4 28 mi, fk_ai E b5 28 mu, fk_ai E b6 2 mfi, fk_ai E b7 2 mla, fk_ai E b12 16 (va_up t1 i (t1 i - Bool.toNat (fs_tak (fr_O mc mu mfi q) a (fr_cp i)) + Bool.toNat (fs_tak (fr_I mc mi mla q) a (fr_cp i))))]) 6 rfl (by omega) (by decide) d_Md_fire_47 rfl ?_
            refine fk_iinc (j := 3) (lv' := [(0, .ref b0), (1, .int (nI q)), (2, .int (nI a)), (3, .int (nI (i + 1)))]) (i + 1) d_Md_fire_48 rfl (nI_1 i) (Nat.le_of_ble_eq_true rfl) [1, 2, 3, 0] rfl ?_
            refine fk_goto d_Md_fire_51 rfl ?_
            refine ih2 _ _ ?_ ?_ ?_ ?_
            · first | omega | assumption | exact Nat.zero_le _
            · intro z hz
              rcases Nat.lt_or_ge z i with w | w
              · rw [va_up_ne _ _ (by omega)]; exact h2 z w
              · rw [show z = i by omega, va_up_self, h3 i (Nat.le_refl _) h5f, hT i h5f]
            · intro z hz hz2
              rw [va_up_ne _ _ (by omega)]
              exact h3 z (by omega) hz2
            · omega
          · refine fk_iconst (v := nI 1) d_Md_fire_40 (by decide +kernel) ?_
            refine fk_goto d_Md_fire_41 rfl ?_
            refine fk_isubR d_Md_fire_45 ?_
            refine fk_iaddR d_Md_fire_46 ?_
            refine fk_top (show ((nI (t1 i)) + ((nI 1) - (nI 1))) = (nI (t1 i - Bool.toNat (fs_tak (fr_O mc mu mfi q) a (fr_cp i)) + Bool.toNat (fs_tak (fr_I mc mi mla q) a (fr_cp i)))) from by first | (rw [h22t, h37t]; exact fr_ar (t := false) (g := false) (by rw [← h37t]; exact g2)) | (rw [h22t, h37f]; exact fr_ar (t := true) (g := false) (by rw [← h37f]; exact g2)) | (rw [h22f, h37t]; exact fr_ar (t := false) (g := true) (by rw [← h37t]; exact g2)) | (rw [h22f, h37f]; exact fr_ar (t := true) (g := true) (by rw [← h37f]; exact g2))) ?_
            refine fk_st_ai (i := i) (x := (t1 i - Bool.toNat (fs_tak (fr_O mc mu mfi q) a (fr_cp i)) + Bool.toNat (fs_tak (fr_I mc mi mla q) a (fr_cp i)))) (w' := [(b0, .inr (6, [.int (nI mt), .ref b1, .ref b2, .ref b3, .ref b4, .ref b5, .ref b6, .ref b7, .ref b8, .ref b9, .int (nI mf), .ref b10, .ref b11, .ref b12, .int (nI my), .int (nI (Bool.toNat mw)), .ref b13, .ref b14, .ref b15])), fk_ai E b3 2 mc, fk_ai E b4 28 mi, fk_ai E b5 28 mu, fk_ai E b6 2 mfi, fk_ai E b7 2 mla, fk_ai E b12 16 (va_up t1 i (t1 i - Bool.toNat (fs_tak (fr_O mc mu mfi q) a (fr_cp i)) + Bool.toNat (fs_tak (fr_I mc mi mla q) a (fr_cp i))))]) 6 rfl (by omega) (by decide) d_Md_fire_47 rfl ?_
            refine fk_iinc (j := 3) (lv' := [(0, .ref b0), (1, .int (nI q)), (2, .int (nI a)), (3, .int (nI (i + 1)))]) (i + 1) d_Md_fire_48 rfl (nI_1 i) (Nat.le_of_ble_eq_true rfl) [1, 2, 3, 0] rfl ?_
            refine fk_goto d_Md_fire_51 rfl ?_
            refine ih2 _ _ ?_ ?_ ?_ ?_
            · first | omega | assumption | exact Nat.zero_le _
            · intro z hz
              rcases Nat.lt_or_ge z i with w | w
              · rw [va_up_ne _ _ (by omega)]; exact h2 z w
              · rw [show z = i by omega, va_up_self, h3 i (Nat.le_refl _) h5f, hT i h5f]
            · intro z hz hz2
              rw [va_up_ne _ _ (by omega)]
              exact h3 z (by omega) hz2
            · omega
  refine L2 _ _ _ ?_ ?_ ?_ (Nat.lt_succ_self _)
  · first | omega | assumption | exact Nat.zero_le _
  · exact fun z hz => absurd hz (Nat.not_lt_zero z)
  · exact fun _ _ _ => rfl
theorem d_Md_fits_0 : decode prog_8_method_27_code 0 = .ok (.iload_n 1, 1) := by decide +kernel
theorem d_Md_fits_1 : decode prog_8_method_27_code 1 = .ok (.invokestatic 82, 3) := by decide +kernel
theorem d_Md_fits_4 : decode prog_8_method_27_code 4 = .ok (.ifCond .ne 15, 3) := by decide +kernel
theorem d_Md_fits_7 : decode prog_8_method_27_code 7 = .ok (.iload_n 2, 1) := by decide +kernel
theorem d_Md_fits_8 : decode prog_8_method_27_code 8 = .ok (.ifCond .lt 11, 3) := by decide +kernel
theorem d_Md_fits_11 : decode prog_8_method_27_code 11 = .ok (.iload_n 2, 1) := by decide +kernel
theorem d_Md_fits_12 : decode prog_8_method_27_code 12 = .ok (.aload_n 0, 1) := by decide +kernel
theorem d_Md_fits_13 : decode prog_8_method_27_code 13 = .ok (.getfield 58, 3) := by decide +kernel
theorem d_Md_fits_16 : decode prog_8_method_27_code 16 = .ok (.if_icmp .lt 5, 3) := by decide +kernel
theorem d_Md_fits_19 : decode prog_8_method_27_code 19 = .ok (.iconst 0, 1) := by decide +kernel
theorem d_Md_fits_20 : decode prog_8_method_27_code 20 = .ok (.ireturn, 1) := by decide +kernel
theorem d_Md_fits_21 : decode prog_8_method_27_code 21 = .ok (.aload_n 0, 1) := by decide +kernel
theorem d_Md_fits_22 : decode prog_8_method_27_code 22 = .ok (.invokevirtual 97, 3) := by decide +kernel
theorem d_Md_fits_25 : decode prog_8_method_27_code 25 = .ok (.iconst 0, 1) := by decide +kernel
theorem d_Md_fits_26 : decode prog_8_method_27_code 26 = .ok (.istore_n 3, 1) := by decide +kernel
theorem d_Md_fits_27 : decode prog_8_method_27_code 27 = .ok (.iload_n 3, 1) := by decide +kernel
theorem d_Md_fits_28 : decode prog_8_method_27_code 28 = .ok (.aload_n 0, 1) := by decide +kernel
theorem d_Md_fits_29 : decode prog_8_method_27_code 29 = .ok (.getfield 7, 3) := by decide +kernel
theorem d_Md_fits_32 : decode prog_8_method_27_code 32 = .ok (.iload_n 2, 1) := by decide +kernel
theorem d_Md_fits_33 : decode prog_8_method_27_code 33 = .ok (.iaload, 1) := by decide +kernel
theorem d_Md_fits_34 : decode prog_8_method_27_code 34 = .ok (.if_icmp .ge 41, 3) := by decide +kernel
theorem d_Md_fits_37 : decode prog_8_method_27_code 37 = .ok (.aload_n 0, 1) := by decide +kernel
theorem d_Md_fits_38 : decode prog_8_method_27_code 38 = .ok (.getfield 13, 3) := by decide +kernel
theorem d_Md_fits_41 : decode prog_8_method_27_code 41 = .ok (.bipush 15, 2) := by decide +kernel
theorem d_Md_fits_43 : decode prog_8_method_27_code 43 = .ok (.iload_n 2, 1) := by decide +kernel
theorem d_Md_fits_44 : decode prog_8_method_27_code 44 = .ok (.imul, 1) := by decide +kernel
theorem d_Md_fits_45 : decode prog_8_method_27_code 45 = .ok (.iload_n 3, 1) := by decide +kernel
theorem d_Md_fits_46 : decode prog_8_method_27_code 46 = .ok (.iadd, 1) := by decide +kernel
theorem d_Md_fits_47 : decode prog_8_method_27_code 47 = .ok (.iaload, 1) := by decide +kernel
theorem d_Md_fits_48 : decode prog_8_method_27_code 48 = .ok (.istore 4, 2) := by decide +kernel
theorem d_Md_fits_50 : decode prog_8_method_27_code 50 = .ok (.aload_n 0, 1) := by decide +kernel
theorem d_Md_fits_51 : decode prog_8_method_27_code 51 = .ok (.iload_n 1, 1) := by decide +kernel
theorem d_Md_fits_52 : decode prog_8_method_27_code 52 = .ok (.iload 4, 2) := by decide +kernel
theorem d_Md_fits_54 : decode prog_8_method_27_code 54 = .ok (.invokevirtual 100, 3) := by decide +kernel
theorem d_Md_fits_57 : decode prog_8_method_27_code 57 = .ok (.ifCond .ne 5, 3) := by decide +kernel
theorem d_Md_fits_60 : decode prog_8_method_27_code 60 = .ok (.iconst 0, 1) := by decide +kernel
theorem d_Md_fits_61 : decode prog_8_method_27_code 61 = .ok (.ireturn, 1) := by decide +kernel
theorem d_Md_fits_62 : decode prog_8_method_27_code 62 = .ok (.aload_n 0, 1) := by decide +kernel
theorem d_Md_fits_63 : decode prog_8_method_27_code 63 = .ok (.iload_n 1, 1) := by decide +kernel
theorem d_Md_fits_64 : decode prog_8_method_27_code 64 = .ok (.iload 4, 2) := by decide +kernel
theorem d_Md_fits_66 : decode prog_8_method_27_code 66 = .ok (.invokevirtual 103, 3) := by decide +kernel
theorem d_Md_fits_69 : decode prog_8_method_27_code 69 = .ok (.iinc 3 1, 3) := by decide +kernel
theorem d_Md_fits_72 : decode prog_8_method_27_code 72 = .ok (.goto (-45), 3) := by decide +kernel
theorem d_Md_fits_75 : decode prog_8_method_27_code 75 = .ok (.aload_n 0, 1) := by decide +kernel
theorem d_Md_fits_76 : decode prog_8_method_27_code 76 = .ok (.invokevirtual 107, 3) := by decide +kernel
theorem d_Md_fits_79 : decode prog_8_method_27_code 79 = .ok (.ireturn, 1) := by decide +kernel
set_option maxRecDepth 20000 in
set_option maxHeartbeats 4000000 in
theorem cD_fits (E : fk_E) (b0 : Nat) (b1 : Nat) (b2 : Nat) (b3 : Nat) (b4 : Nat) (b5 : Nat) (b6 : Nat) (b7 : Nat) (b8 : Nat) (b9 : Nat) (b10 : Nat) (b11 : Nat) (b12 : Nat) (b13 : Nat) (b14 : Nat) (b15 : Nat) (mt : Nat) (mf : Nat) (my : Nat) (mw : Bool) (len : Nat → Nat) (ev : Nat → Nat) (mc : Nat → Nat) (mi : Nat → Nat) (mu : Nat → Nat) (mfi : Nat → Nat) (mla : Nat → Nat) (mac : Nat → Nat) (tk : Nat → Nat) (q : Nat) (t : Nat) (hN : fr_N mc mi mu mfi mla) (hm1 : mac 1 < 128) (hq : q < 2) (ht : mt ≤ 20) (h1 : t < mt) (hl : len t ≤ 15) (he : ∀ i, i < len t → ev (15 * t + i) < 7) : fk_C E fy_Md_fits prog_8_method_27_code 5 (some .boolean) 3 0 0 [.ref b0, .int (nI q), .int (nI t)] [(b0, .inr (6, [.int (nI mt), .ref b1, .ref b2, .ref b3, .ref b4, .ref b5, .ref b6, .ref b7, .ref b8, .ref b9, .int (nI mf), .ref b10, .ref b11, .ref b12, .int (nI my), .int (nI (Bool.toNat mw)), .ref b13, .ref b14, .ref b15])), fk_ai E b1 20 len, fk_ai E b2 300 ev, fk_ai E b3 2 mc, fk_ai E b4 28 mi, fk_ai E b5 28 mu, fk_ai E b6 2 mfi, fk_ai E b7 2 mla, fk_ai E b8 2 mac, fk_ai E b12 16 tk] (S := (Nat → Nat)) (fun (u : (Nat → Nat)) => some (.int (nI (Bool.toNat (ft_ok (fr_O mc mu mfi q) (fr_I mc mi mla q) (fr_me mc mi mu mfi mla mac q) (fun z9 => ev (15 * t + z9)) (len t)))))) (fun (u : (Nat → Nat)) => True) (fun (u : (Nat → Nat)) => [(b0, .inr (6, [.int (nI mt), .ref b1, .ref b2, .ref b3, .ref b4, .ref b5, .ref b6, .ref b7, .ref b8, .ref b9, .int (nI mf), .ref b10, .ref b11, .ref b12, .int (nI my), .int (nI (Bool.toNat mw)), .ref b13, .ref b14, .ref b15])), fk_ai E b1 20 len, fk_ai E b2 300 ev, fk_ai E b3 2 mc, fk_ai E b4 28 mi, fk_ai E b5 28 mu, fk_ai E b6 2 mfi, fk_ai E b7 2 mla, fk_ai E b8 2 mac, fk_ai E b12 16 u]) := by
  refine fk_enterZ (v := fun (u : (Nat → Nat)) => ft_ok (fr_O mc mu mfi q) (fr_I mc mi mla q) (fr_me mc mi mu mfi mla mac q) (fun z9 => ev (15 * t + z9)) (len t)) (by decide) (Nat.le_of_ble_eq_true rfl) (lv0 := [(0, .ref b0), (1, .int (nI q)), (2, .int (nI t))]) rfl ?_
  intro K hini hret
  refine fk_iload_n 1 d_Md_fits_0 rfl ?_
  refine fk_callS (As := [.int (nI q)]) (rest := []) (is := []) (ir := [0, 1, 2, 3, 4, 5, 6, 7, 8, 9]) (ip := [0, 1, 2, 3, 4, 5, 6, 7, 8, 9]) (wc := []) (wr := [(b0, .inr (6, [.int (nI mt), .ref b1, .ref b2, .ref b3, .ref b4, .ref b5, .ref b6, .ref b7, .ref b8, .ref b9, .int (nI mf), .ref b10, .ref b11, .ref b12, .int (nI my), .int (nI (Bool.toNat mw)), .ref b13, .ref b14, .ref b15])), fk_ai E b1 20 len, fk_ai E b2 300 ev, fk_ai E b3 2 mc, fk_ai E b4 28 mi, fk_ai E b5 28 mu, fk_ai E b6 2 mfi, fk_ai E b7 2 mla, fk_ai E b8 2 mac, fk_ai E b12 16 tk]) (w2 := fun _ => [(b0, .inr (6, [.int (nI mt), .ref b1, .ref b2, .ref b3, .ref b4, .ref b5, .ref b6, .ref b7, .ref b8, .ref b9, .int (nI mf), .ref b10, .ref b11, .ref b12, .int (nI my), .int (nI (Bool.toNat mw)), .ref b13, .ref b14, .ref b15])), fk_ai E b1 20 len, fk_ai E b2 300 ev, fk_ai E b3 2 mc, fk_ai E b4 28 mi, fk_ai E b5 28 mu, fk_ai E b6 2 mfi, fk_ai E b7 2 mla, fk_ai E b8 2 mac, fk_ai E b12 16 tk]) (cD_notNet E q (by first | omega | assumption)) d_Md_fits_1 fz_Md_notNet fw_627 fw_628 ⟨Nat.le_of_ble_eq_true rfl, Nat.le_of_ble_eq_true rfl⟩ rfl (Nat.le_of_ble_eq_true rfl) ⟨Nat.zero_le _, Nat.zero_le _⟩ ⟨rfl, rfl, rfl, rfl, by decide, fun _ => rfl, rfl⟩ (fun u hu1 => ?_)
  show fk_V E _ K (0, 0) [(b0, .inr (6, [.int (nI mt), .ref b1, .ref b2, .ref b3, .ref b4, .ref b5, .ref b6, .ref b7, .ref b8, .ref b9, .int (nI mf), .ref b10, .ref b11, .ref b12, .int (nI my), .int (nI (Bool.toNat mw)), .ref b13, .ref b14, .ref b15])), fk_ai E b1 20 len, fk_ai E b2 300 ev, fk_ai E b3 2 mc, fk_ai E b4 28 mi, fk_ai E b5 28 mu, fk_ai E b6 2 mfi, fk_ai E b7 2 mla, fk_ai E b8 2 mac, fk_ai E b12 16 tk] 4 [(0, .ref b0), (1, .int (nI q)), (2, .int (nI t))] [.int (nI (Bool.toNat (decide (2 ≤ q))))]
  refine fk_if_neB (b := (decide (2 ≤ q))) d_Md_fits_4 rfl (fun h4t => ?_) (fun h4f => ?_)
  · exact absurd (of_decide_eq_true h4t) (by omega)
  · refine fk_iload_n 2 d_Md_fits_7 rfl ?_
    refine fk_if_lt (by omega) d_Md_fits_8 rfl ?_
    refine fk_iload_n 2 d_Md_fits_11 rfl ?_
    refine fk_aload_n 0 d_Md_fits_12 rfl ?_
    refine fk_get 0 0 rfl rfl fh_Md (Nat.le_of_ble_eq_true rfl) fw_507 rfl d_Md_fits_13 ?_
    refine fk_icmp_lt (a := t) (b := mt) (by omega) (by omega) d_Md_fits_16 rfl (fun h16t => ?_) (fun h16f => ?_)
    · refine fk_aload_n 0 d_Md_fits_21 rfl ?_
      refine fk_callV (q0 := 0) (As := []) (rest := []) (is := [0, 9]) (ir := [1, 2, 3, 4, 5, 6, 7, 8]) (ip := [8, 0, 1, 2, 3, 4, 5, 6, 7, 9]) (wc := [(b0, .inr (6, [.int (nI mt), .ref b1, .ref b2, .ref b3, .ref b4, .ref b5, .ref b6, .ref b7, .ref b8, .ref b9, .int (nI mf), .ref b10, .ref b11, .ref b12, .int (nI my), .int (nI (Bool.toNat mw)), .ref b13, .ref b14, .ref b15])), fk_ai E b12 16 tk]) (wr := [fk_ai E b1 20 len, fk_ai E b2 300 ev, fk_ai E b3 2 mc, fk_ai E b4 28 mi, fk_ai E b5 28 mu, fk_ai E b6 2 mfi, fk_ai E b7 2 mla, fk_ai E b8 2 mac]) (w2 := fun u => [(b0, .inr (6, [.int (nI mt), .ref b1, .ref b2, .ref b3, .ref b4, .ref b5, .ref b6, .ref b7, .ref b8, .ref b9, .int (nI mf), .ref b10, .ref b11, .ref b12, .int (nI my), .int (nI (Bool.toNat mw)), .ref b13, .ref b14, .ref b15])), fk_ai E b1 20 len, fk_ai E b2 300 ev, fk_ai E b3 2 mc, fk_ai E b4 28 mi, fk_ai E b5 28 mu, fk_ai E b6 2 mfi, fk_ai E b7 2 mla, fk_ai E b8 2 mac, fk_ai E b12 16 u]) (cD_initial E b0 b1 b2 b3 b4 b5 b6 b7 b8 b9 b10 b11 b12 b13 b14 b15 mt mf my mw tk ) d_Md_fits_22 fz_Md_initial fw_642 rfl rfl fw_644 fw_p19 ⟨Nat.le_of_ble_eq_true rfl, Nat.le_of_ble_eq_true rfl⟩ rfl (Nat.le_of_ble_eq_true rfl) ⟨Nat.zero_le _, Nat.zero_le _⟩ ⟨rfl, rfl, rfl, rfl, by decide, fun _ => rfl, rfl⟩ (fun u hu22 => ?_)
      obtain ⟨tk9_22, rfl⟩ : ∃ z, z = u := ⟨_, rfl⟩
      have hq22 : fr_T tk9_22 1 := hu22
      show fk_V E _ K (0, 0) [(b0, .inr (6, [.int (nI mt), .ref b1, .ref b2, .ref b3, .ref b4, .ref b5, .ref b6, .ref b7, .ref b8, .ref b9, .int (nI mf), .ref b10, .ref b11, .ref b12, .int (nI my), .int (nI (Bool.toNat mw)), .ref b13, .ref b14, .ref b15])), fk_ai E b1 20 len, fk_ai E b2 300 ev, fk_ai E b3 2 mc, fk_ai E b4 28 mi, fk_ai E b5 28 mu, fk_ai E b6 2 mfi, fk_ai E b7 2 mla, fk_ai E b8 2 mac, fk_ai E b12 16 tk9_22] 25 [(0, .ref b0), (1, .int (nI q)), (2, .int (nI t))] []
      refine fk_iconst (v := nI 0) d_Md_fits_25 (by decide +kernel) ?_
      refine fk_istore_n (lv' := [(0, .ref b0), (1, .int (nI q)), (2, .int (nI t)), (3, .int (nI 0))]) d_Md_fits_26 rfl (Nat.le_of_ble_eq_true rfl) [1, 2, 3, 0] rfl ?_
      have L27 : ∀ (fuel : Nat) (i : Nat) (x : Nat) (t1 : Nat → Nat), (i ≤ len t) → (ft_run (fr_O mc mu mfi q) (fr_I mc mi mla q) (fr_me mc mi mu mfi mla mac q) (fun z9 => ev (15 * t + z9)) i = (x, true)) → (fr_T t1 x) → (fp_bd x i) → len t - i < fuel → fk_V E (prog_8_method_27_code, fy_Md_fits.cls, 5, fk_rm 3 0 0) K (0, 0) [(b0, .inr (6, [.int (nI mt), .ref b1, .ref b2, .ref b3, .ref b4, .ref b5, .ref b6, .ref b7, .ref b8, .ref b9, .int (nI mf), .ref b10, .ref b11, .ref b12, .int (nI my), .int (nI (Bool.toNat mw)), .ref b13, .ref b14, .ref b15])), fk_ai E b1 20 len, fk_ai E b2 300 ev, fk_ai E b3 2 mc, fk_ai E b4 28 mi, fk_ai E b5 28 mu, fk_ai E b6 2 mfi, fk_ai E b7 2 mla, fk_ai E b8 2 mac, fk_ai E b12 16 t1] 27 [(0, .ref b0), (1, .int (nI q)), (2, .int (nI t)), (3, .int (nI i))] [] := by
        intro fuel
        induction fuel with
        | zero => intro i x t1 _ _ _ _ hm; exact absurd hm (Nat.not_lt_zero _)
        | succ fuel ih =>
          intro i x t1 h2 h3 h4 h5 hm27
          have ih27 := ih
          clear ih
          refine fk_iload_n 3 d_Md_fits_27 rfl ?_
          refine fk_aload_n 0 d_Md_fits_28 rfl ?_
          refine fk_get 0 1 rfl rfl fh_Md (Nat.le_of_ble_eq_true rfl) fw_508 rfl d_Md_fits_29 ?_
          refine fk_iload_n 2 d_Md_fits_32 rfl ?_
          refine fk_ld_ai (i := t) 1 rfl (by omega) (by decide) d_Md_fits_33 ?_
          refine fk_icmp_ge (a := i) (b := (len t)) (by omega) (by omega) d_Md_fits_34 rfl (fun h34t => ?_) (fun h34f => ?_)
          · refine fk_aload_n 0 d_Md_fits_75 rfl ?_
            refine fk_callV (q0 := 0) (As := []) (rest := []) (is := [0, 9]) (ir := [1, 2, 3, 4, 5, 6, 7, 8]) (ip := [8, 0, 1, 2, 3, 4, 5, 6, 7, 9]) (wc := [(b0, .inr (6, [.int (nI mt), .ref b1, .ref b2, .ref b3, .ref b4, .ref b5, .ref b6, .ref b7, .ref b8, .ref b9, .int (nI mf), .ref b10, .ref b11, .ref b12, .int (nI my), .int (nI (Bool.toNat mw)), .ref b13, .ref b14, .ref b15])), fk_ai E b12 16 t1]) (wr := [fk_ai E b1 20 len, fk_ai E b2 300 ev, fk_ai E b3 2 mc, fk_ai E b4 28 mi, fk_ai E b5 28 mu, fk_ai E b6 2 mfi, fk_ai E b7 2 mla, fk_ai E b8 2 mac]) (w2 := fun _ => [(b0, .inr (6, [.int (nI mt), .ref b1, .ref b2, .ref b3, .ref b4, .ref b5, .ref b6, .ref b7, .ref b8, .ref b9, .int (nI mf), .ref b10, .ref b11, .ref b12, .int (nI my), .int (nI (Bool.toNat mw)), .ref b13, .ref b14, .ref b15])), fk_ai E b1 20 len, fk_ai E b2 300 ev, fk_ai E b3 2 mc, fk_ai E b4 28 mi, fk_ai E b5 28 mu, fk_ai E b6 2 mfi, fk_ai E b7 2 mla, fk_ai E b8 2 mac, fk_ai E b12 16 t1]) (cD_isFinal E b0 b1 b2 b3 b4 b5 b6 b7 b8 b9 b10 b11 b12 b13 b14 b15 mt mf my mw t1 x h4 h5.1) d_Md_fits_76 fz_Md_isFinal fw_666 rfl rfl fw_668 fw_p25 ⟨Nat.le_of_ble_eq_true rfl, Nat.le_of_ble_eq_true rfl⟩ rfl (Nat.le_of_ble_eq_true rfl) ⟨Nat.zero_le _, Nat.zero_le _⟩ ⟨rfl, rfl, rfl, rfl, by decide, fun _ => rfl, rfl⟩ (fun u hu76 => ?_)
            show fk_V E _ K (0, 0) [(b0, .inr (6, [.int (nI mt), .ref b1, .ref b2, .ref b3, .ref b4, .ref b5, .ref b6, .ref b7, .ref b8, .ref b9, .int (nI mf), .ref b10, .ref b11, .ref b12, .int (nI my), .int (nI (Bool.toNat mw)), .ref b13, .ref b14, .ref b15])), fk_ai E b1 20 len, fk_ai E b2 300 ev, fk_ai E b3 2 mc, fk_ai E b4 28 mi, fk_ai E b5 28 mu, fk_ai E b6 2 mfi, fk_ai E b7 2 mla, fk_ai E b8 2 mac, fk_ai E b12 16 t1] 79 [(0, .ref b0), (1, .int (nI q)), (2, .int (nI t)), (3, .int (nI i))] [.int (nI (Bool.toNat (decide (x = 16))))]
            refine fk_top (congrArg (fun b : Bool => nI b.toNat) (show (decide (x = 16)) = (ft_ok (fr_O mc mu mfi q) (fr_I mc mi mla q) (fr_me mc mi mu mfi mla mac q) (fun z9 => ev (15 * t + z9)) (len t)) from by unfold ft_ok; rw [show len t = i by omega, h3]; rfl)) ?_
            exact hret (0, 0) _ 79 _ t1 d_Md_fits_79 (trivial) (rfl)
          · have g1 := he i h34f
            refine fk_aload_n 0 d_Md_fits_37 rfl ?_
            refine fk_get 0 2 rfl rfl fh_Md (Nat.le_of_ble_eq_true rfl) fw_509 rfl d_Md_fits_38 ?_
            refine fk_bipush (v := nI 15) d_Md_fits_41 (by decide +kernel) ?_
            refine fk_iload_n 2 d_Md_fits_43 rfl ?_
            refine fk_imul (a := 15) (b := t) d_Md_fits_44 ?_
            refine fk_iload_n 3 d_Md_fits_45 rfl ?_
            refine fk_iadd (a := (15 * t)) (b := i) d_Md_fits_46 ?_
            refine fk_ld_ai (i := ((15 * t) + i)) 2 rfl (by omega) (by decide) d_Md_fits_47 ?_
            refine fk_istore (lv' := [(0, .ref b0), (1, .int (nI q)), (2, .int (nI t)), (3, .int (nI i)), (4, .int (nI (ev ((15 * t) + i))))]) d_Md_fits_48 (Nat.le_of_ble_eq_true rfl) [1, 2, 3, 4, 0] rfl ?_
            refine fk_aload_n 0 d_Md_fits_50 rfl ?_
            refine fk_iload_n 1 d_Md_fits_51 rfl ?_
            refine fk_iload 4 d_Md_fits_52 rfl ?_
            refine fk_callV (q0 := 0) (As := [.int (nI q), .int (nI (ev ((15 * t) + i)))]) (rest := []) (is := [0, 3, 4, 5, 6, 7, 8, 9]) (ir := [1, 2]) (ip := [2, 0, 1, 3, 4, 5, 6, 7, 8, 9]) (wc := [(b0, .inr (6, [.int (nI mt), .ref b1, .ref b2, .ref b3, .ref b4, .ref b5, .ref b6, .ref b7, .ref b8, .ref b9, .int (nI mf), .ref b10, .ref b11, .ref b12, .int (nI my), .int (nI (Bool.toNat mw)), .ref b13, .ref b14, .ref b15])), fk_ai E b3 2 mc, fk_ai E b4 28 mi, fk_ai E b5 28 mu, fk_ai E b6 2 mfi, fk_ai E b7 2 mla, fk_ai E b8 2 mac, fk_ai E b12 16 t1]) (wr := [fk_ai E b1 20 len, fk_ai E b2 300 ev]) (w2 := fun _ => [(b0, .inr (6, [.int (nI mt), .ref b1, .ref b2, .ref b3, .ref b4, .ref b5, .ref b6, .ref b7, .ref b8, .ref b9, .int (nI mf), .ref b10, .ref b11, .ref b12, .int (nI my), .int (nI (Bool.toNat mw)), .ref b13, .ref b14, .ref b15])), fk_ai E b1 20 len, fk_ai E b2 300 ev, fk_ai E b3 2 mc, fk_ai E b4 28 mi, fk_ai E b5 28 mu, fk_ai E b6 2 mfi, fk_ai E b7 2 mla, fk_ai E b8 2 mac, fk_ai E b12 16 t1]) (cD_enabled E b0 b1 b2 b3 b4 b5 b6 b7 b8 b9 b10 b11 b12 b13 b14 b15 mt mf my mw mc mi mu mfi mla mac t1 q (ev ((15 * t) + i)) x (by first | omega | assumption) (by first | omega | assumption) (by first | omega | assumption) (by first | omega | assumption) h4) d_Md_fits_54 fz_Md_enabled fw_646 rfl rfl fw_648 fw_p20 ⟨Nat.le_of_ble_eq_true rfl, Nat.le_of_ble_eq_true rfl⟩ rfl (Nat.le_of_ble_eq_true rfl) ⟨Nat.zero_le _, Nat.zero_le _⟩ ⟨rfl, rfl, rfl, rfl, by decide, fun _ => rfl, rfl⟩ (fun u hu54 => ?_)
            show fk_V E _ K (0, 0) [(b0, .inr (6, [.int (nI mt), .ref b1, .ref b2, .ref b3, .ref b4, .ref b5, .ref b6, .ref b7, .ref b8, .ref b9, .int (nI mf), .ref b10, .ref b11, .ref b12, .int (nI my), .int (nI (Bool.toNat mw)), .ref b13, .ref b14, .ref b15])), fk_ai E b1 20 len, fk_ai E b2 300 ev, fk_ai E b3 2 mc, fk_ai E b4 28 mi, fk_ai E b5 28 mu, fk_ai E b6 2 mfi, fk_ai E b7 2 mla, fk_ai E b8 2 mac, fk_ai E b12 16 t1] 57 [(0, .ref b0), (1, .int (nI q)), (2, .int (nI t)), (3, .int (nI i)), (4, .int (nI (ev ((15 * t) + i))))] [.int (nI (Bool.toNat (fs_en (fr_O mc mu mfi q) (fr_me mc mi mu mfi mla mac q) x (ev ((15 * t) + i)))))]
            refine fk_if_neB (b := (fs_en (fr_O mc mu mfi q) (fr_me mc mi mu mfi mla mac q) x (ev ((15 * t) + i)))) d_Md_fits_57 rfl (fun h57t => ?_) (fun h57f => ?_)
            · refine fk_aload_n 0 d_Md_fits_62 rfl ?_
              refine fk_iload_n 1 d_Md_fits_63 rfl ?_
              refine fk_iload 4 d_Md_fits_64 rfl ?_
              refine fk_callV (q0 := 0) (As := [.int (nI q), .int (nI (ev ((15 * t) + i)))]) (rest := []) (is := [0, 3, 4, 5, 6, 7, 9]) (ir := [1, 2, 8]) (ip := [3, 0, 1, 4, 5, 6, 7, 8, 2, 9]) (wc := [(b0, .inr (6, [.int (nI mt), .ref b1, .ref b2, .ref b3, .ref b4, .ref b5, .ref b6, .ref b7, .ref b8, .ref b9, .int (nI mf), .ref b10, .ref b11, .ref b12, .int (nI my), .int (nI (Bool.toNat mw)), .ref b13, .ref b14, .ref b15])), fk_ai E b3 2 mc, fk_ai E b4 28 mi, fk_ai E b5 28 mu, fk_ai E b6 2 mfi, fk_ai E b7 2 mla, fk_ai E b12 16 t1]) (wr := [fk_ai E b1 20 len, fk_ai E b2 300 ev, fk_ai E b8 2 mac]) (w2 := fun u => [(b0, .inr (6, [.int (nI mt), .ref b1, .ref b2, .ref b3, .ref b4, .ref b5, .ref b6, .ref b7, .ref b8, .ref b9, .int (nI mf), .ref b10, .ref b11, .ref b12, .int (nI my), .int (nI (Bool.toNat mw)), .ref b13, .ref b14, .ref b15])), fk_ai E b1 20 len, fk_ai E b2 300 ev, fk_ai E b3 2 mc, fk_ai E b4 28 mi, fk_ai E b5 28 mu, fk_ai E b6 2 mfi, fk_ai E b7 2 mla, fk_ai E b8 2 mac, fk_ai E b12 16 u]) (cD_fire E b0 b1 b2 b3 b4 b5 b6 b7 b8 b9 b10 b11 b12 b13 b14 b15 mt mf my mw mc mi mu mfi mla mac t1 q (ev ((15 * t) + i)) x (by first | omega | assumption) (by first | omega | assumption) (by first | omega | assumption) h4 (fs_en_can h57t)) d_Md_fits_66 fz_Md_fire fw_658 rfl rfl fw_660 fw_p23 ⟨Nat.le_of_ble_eq_true rfl, Nat.le_of_ble_eq_true rfl⟩ rfl (Nat.le_of_ble_eq_true rfl) ⟨Nat.zero_le _, Nat.zero_le _⟩ ⟨rfl, rfl, rfl, rfl, by decide, fun _ => rfl, rfl⟩ (fun u hu66 => ?_)
              obtain ⟨tk9_66, rfl⟩ : ∃ z, z = u := ⟨_, rfl⟩
              have hq66 : ∀ z, z < 16 → tk9_66 z = fm_dg x (fr_cp z) - Bool.toNat (fs_tak (fr_O mc mu mfi q) (ev ((15 * t) + i)) (fr_cp z)) + Bool.toNat (fs_tak (fr_I mc mi mla q) (ev ((15 * t) + i)) (fr_cp z)) := hu66
              show fk_V E _ K (0, 0) [(b0, .inr (6, [.int (nI mt), .ref b1, .ref b2, .ref b3, .ref b4, .ref b5, .ref b6, .ref b7, .ref b8, .ref b9, .int (nI mf), .ref b10, .ref b11, .ref b12, .int (nI my), .int (nI (Bool.toNat mw)), .ref b13, .ref b14, .ref b15])), fk_ai E b1 20 len, fk_ai E b2 300 ev, fk_ai E b3 2 mc, fk_ai E b4 28 mi, fk_ai E b5 28 mu, fk_ai E b6 2 mfi, fk_ai E b7 2 mla, fk_ai E b8 2 mac, fk_ai E b12 16 tk9_66] 69 [(0, .ref b0), (1, .int (nI q)), (2, .int (nI t)), (3, .int (nI i)), (4, .int (nI (ev ((15 * t) + i))))] []
              refine fk_iinc (j := 3) (lv' := [(0, .ref b0), (1, .int (nI q)), (2, .int (nI t)), (3, .int (nI (i + 1))), (4, .int (nI (ev ((15 * t) + i))))]) (i + 1) d_Md_fits_69 rfl (nI_1 i) (Nat.le_of_ble_eq_true rfl) [1, 2, 3, 0, 4] rfl ?_
              refine fk_goto d_Md_fits_72 rfl ?_
              refine fk_lv (lv' := [(0, .ref b0), (1, .int (nI q)), (2, .int (nI t)), (3, .int (nI (i + 1)))]) [0, 1, 2, 3] rfl ?_
              refine ih27 _ (fs_fire (fr_O mc mu mfi q) (fr_I mc mi mla q) x (ev (15 * t + i))) _ ?_ ?_ ?_ ?_ ?_
              · first | omega | assumption | exact Nat.zero_le _
              · exact ft_s h3 h57t
              · exact fr_T_fire (fr_I0 _ _ _ _) h5 (by omega) hq66
              · exact (fp_fire (fr_I0 _ _ _ _) h5 (by omega)).1
              · omega
            · refine fk_iconst (v := nI 0) d_Md_fits_60 (by decide +kernel) ?_
              refine fk_top (fn_rf (b := ft_ok (fr_O mc mu mfi q) (fr_I mc mi mla q) (fr_me mc mi mu mfi mla mac q) (fun z9 => ev (15 * t + z9)) (len t)) (by unfold ft_ok; rw [ft_no h3 h57f (by omega)]; rfl)) ?_
              exact hret (0, 0) _ 61 _ t1 d_Md_fits_61 (trivial) (rfl)
      refine L27 _ _ 1 _ ?_ ?_ ?_ ?_ (Nat.lt_succ_self _)
      · first | omega | assumption | exact Nat.zero_le _
      · rfl
      · exact hq22
      · exact fp_bd_0
    · omega
set_option maxRecDepth 20000 in
set_option maxHeartbeats 4000000 in
theorem cD_fitsT (E : fk_E) (b0 : Nat) (b1 : Nat) (b2 : Nat) (b3 : Nat) (b4 : Nat) (b5 : Nat) (b6 : Nat) (b7 : Nat) (b8 : Nat) (b9 : Nat) (b10 : Nat) (b11 : Nat) (b12 : Nat) (b13 : Nat) (b14 : Nat) (b15 : Nat) (mt : Nat) (mf : Nat) (my : Nat) (mw : Bool) (len : Nat → Nat) (ev : Nat → Nat) (mc : Nat → Nat) (mi : Nat → Nat) (mu : Nat → Nat) (mfi : Nat → Nat) (mla : Nat → Nat) (mac : Nat → Nat) (tk : Nat → Nat) (q : Nat) (t : Nat) (hq : q < 2) (ht : mt ≤ 20) (h1 : mt ≤ t) (h2 : t < 2 ^ 31) : fk_C E fy_Md_fits prog_8_method_27_code 5 (some .boolean) 3 0 0 [.ref b0, .int (nI q), .int (nI t)] [(b0, .inr (6, [.int (nI mt), .ref b1, .ref b2, .ref b3, .ref b4, .ref b5, .ref b6, .ref b7, .ref b8, .ref b9, .int (nI mf), .ref b10, .ref b11, .ref b12, .int (nI my), .int (nI (Bool.toNat mw)), .ref b13, .ref b14, .ref b15])), fk_ai E b1 20 len, fk_ai E b2 300 ev, fk_ai E b3 2 mc, fk_ai E b4 28 mi, fk_ai E b5 28 mu, fk_ai E b6 2 mfi, fk_ai E b7 2 mla, fk_ai E b8 2 mac, fk_ai E b12 16 tk] (S := Unit) (fun _ => some (.int (nI (Bool.toNat false)))) (fun _ => True) (fun _ => [(b0, .inr (6, [.int (nI mt), .ref b1, .ref b2, .ref b3, .ref b4, .ref b5, .ref b6, .ref b7, .ref b8, .ref b9, .int (nI mf), .ref b10, .ref b11, .ref b12, .int (nI my), .int (nI (Bool.toNat mw)), .ref b13, .ref b14, .ref b15])), fk_ai E b1 20 len, fk_ai E b2 300 ev, fk_ai E b3 2 mc, fk_ai E b4 28 mi, fk_ai E b5 28 mu, fk_ai E b6 2 mfi, fk_ai E b7 2 mla, fk_ai E b8 2 mac, fk_ai E b12 16 tk]) := by
  refine fk_enterZ (v := fun _ => false) (by decide) (Nat.le_of_ble_eq_true rfl) (lv0 := [(0, .ref b0), (1, .int (nI q)), (2, .int (nI t))]) rfl ?_
  intro K hini hret
  refine fk_iload_n 1 d_Md_fits_0 rfl ?_
  refine fk_callS (As := [.int (nI q)]) (rest := []) (is := []) (ir := [0, 1, 2, 3, 4, 5, 6, 7, 8, 9]) (ip := [0, 1, 2, 3, 4, 5, 6, 7, 8, 9]) (wc := []) (wr := [(b0, .inr (6, [.int (nI mt), .ref b1, .ref b2, .ref b3, .ref b4, .ref b5, .ref b6, .ref b7, .ref b8, .ref b9, .int (nI mf), .ref b10, .ref b11, .ref b12, .int (nI my), .int (nI (Bool.toNat mw)), .ref b13, .ref b14, .ref b15])), fk_ai E b1 20 len, fk_ai E b2 300 ev, fk_ai E b3 2 mc, fk_ai E b4 28 mi, fk_ai E b5 28 mu, fk_ai E b6 2 mfi, fk_ai E b7 2 mla, fk_ai E b8 2 mac, fk_ai E b12 16 tk]) (w2 := fun _ => [(b0, .inr (6, [.int (nI mt), .ref b1, .ref b2, .ref b3, .ref b4, .ref b5, .ref b6, .ref b7, .ref b8, .ref b9, .int (nI mf), .ref b10, .ref b11, .ref b12, .int (nI my), .int (nI (Bool.toNat mw)), .ref b13, .ref b14, .ref b15])), fk_ai E b1 20 len, fk_ai E b2 300 ev, fk_ai E b3 2 mc, fk_ai E b4 28 mi, fk_ai E b5 28 mu, fk_ai E b6 2 mfi, fk_ai E b7 2 mla, fk_ai E b8 2 mac, fk_ai E b12 16 tk]) (cD_notNet E q (by first | omega | assumption)) d_Md_fits_1 fz_Md_notNet fw_627 fw_628 ⟨Nat.le_of_ble_eq_true rfl, Nat.le_of_ble_eq_true rfl⟩ rfl (Nat.le_of_ble_eq_true rfl) ⟨Nat.zero_le _, Nat.zero_le _⟩ ⟨rfl, rfl, rfl, rfl, by decide, fun _ => rfl, rfl⟩ (fun u hu1 => ?_)
  show fk_V E _ K (0, 0) [(b0, .inr (6, [.int (nI mt), .ref b1, .ref b2, .ref b3, .ref b4, .ref b5, .ref b6, .ref b7, .ref b8, .ref b9, .int (nI mf), .ref b10, .ref b11, .ref b12, .int (nI my), .int (nI (Bool.toNat mw)), .ref b13, .ref b14, .ref b15])), fk_ai E b1 20 len, fk_ai E b2 300 ev, fk_ai E b3 2 mc, fk_ai E b4 28 mi, fk_ai E b5 28 mu, fk_ai E b6 2 mfi, fk_ai E b7 2 mla, fk_ai E b8 2 mac, fk_ai E b12 16 tk] 4 [(0, .ref b0), (1, .int (nI q)), (2, .int (nI t))] [.int (nI (Bool.toNat (decide (2 ≤ q))))]
  refine fk_if_neB (b := (decide (2 ≤ q))) d_Md_fits_4 rfl (fun h4t => ?_) (fun h4f => ?_)
  · exact absurd (of_decide_eq_true h4t) (by omega)
  · refine fk_iload_n 2 d_Md_fits_7 rfl ?_
    refine fk_if_lt (by omega) d_Md_fits_8 rfl ?_
    refine fk_iload_n 2 d_Md_fits_11 rfl ?_
    refine fk_aload_n 0 d_Md_fits_12 rfl ?_
    refine fk_get 0 0 rfl rfl fh_Md (Nat.le_of_ble_eq_true rfl) fw_507 rfl d_Md_fits_13 ?_
    refine fk_icmp_lt (a := t) (b := mt) (by omega) (by omega) d_Md_fits_16 rfl (fun h16t => ?_) (fun h16f => ?_)
    · omega
    · refine fk_iconst (v := nI 0) d_Md_fits_19 (by decide +kernel) ?_
      refine fk_top (fn_rf (b := false) (by first | assumption | (simp; omega) | simp_all | (simp_all; omega))) ?_
      exact hret (0, 0) _ 20 _ () d_Md_fits_20 (trivial) (rfl)
set_option maxRecDepth 20000 in
set_option maxHeartbeats 4000000 in
theorem cD_fitsY (E : fk_E) (b0 : Nat) (b1 : Nat) (b2 : Nat) (b3 : Nat) (b4 : Nat) (b5 : Nat) (b6 : Nat) (b7 : Nat) (b8 : Nat) (b9 : Nat) (b10 : Nat) (b11 : Nat) (b12 : Nat) (b13 : Nat) (b14 : Nat) (b15 : Nat) (mt : Nat) (mf : Nat) (my : Nat) (mw : Bool) (len : Nat → Nat) (ev : Nat → Nat) (mc : Nat → Nat) (mi : Nat → Nat) (mu : Nat → Nat) (mfi : Nat → Nat) (mla : Nat → Nat) (mac : Nat → Nat) (tk : Nat → Nat) (q : Nat) (y : Int32) (hq : q < 2) (hy : y < 0) : fk_C E fy_Md_fits prog_8_method_27_code 5 (some .boolean) 3 0 0 [.ref b0, .int (nI q), .int y] [(b0, .inr (6, [.int (nI mt), .ref b1, .ref b2, .ref b3, .ref b4, .ref b5, .ref b6, .ref b7, .ref b8, .ref b9, .int (nI mf), .ref b10, .ref b11, .ref b12, .int (nI my), .int (nI (Bool.toNat mw)), .ref b13, .ref b14, .ref b15])), fk_ai E b1 20 len, fk_ai E b2 300 ev, fk_ai E b3 2 mc, fk_ai E b4 28 mi, fk_ai E b5 28 mu, fk_ai E b6 2 mfi, fk_ai E b7 2 mla, fk_ai E b8 2 mac, fk_ai E b12 16 tk] (S := Unit) (fun _ => some (.int (nI (Bool.toNat false)))) (fun _ => True) (fun _ => [(b0, .inr (6, [.int (nI mt), .ref b1, .ref b2, .ref b3, .ref b4, .ref b5, .ref b6, .ref b7, .ref b8, .ref b9, .int (nI mf), .ref b10, .ref b11, .ref b12, .int (nI my), .int (nI (Bool.toNat mw)), .ref b13, .ref b14, .ref b15])), fk_ai E b1 20 len, fk_ai E b2 300 ev, fk_ai E b3 2 mc, fk_ai E b4 28 mi, fk_ai E b5 28 mu, fk_ai E b6 2 mfi, fk_ai E b7 2 mla, fk_ai E b8 2 mac, fk_ai E b12 16 tk]) := by
  refine fk_enterZ (v := fun _ => false) (by decide) (Nat.le_of_ble_eq_true rfl) (lv0 := [(0, .ref b0), (1, .int (nI q)), (2, .int y)]) rfl ?_
  intro K hini hret
  refine fk_iload_n 1 d_Md_fits_0 rfl ?_
  refine fk_callS (As := [.int (nI q)]) (rest := []) (is := []) (ir := [0, 1, 2, 3, 4, 5, 6, 7, 8, 9]) (ip := [0, 1, 2, 3, 4, 5, 6, 7, 8, 9]) (wc := []) (wr := [(b0, .inr (6, [.int (nI mt), .ref b1, .ref b2, .ref b3, .ref b4, .ref b5, .ref b6, .ref b7, .ref b8, .ref b9, .int (nI mf), .ref b10, .ref b11, .ref b12, .int (nI my), .int (nI (Bool.toNat mw)), .ref b13, .ref b14, .ref b15])), fk_ai E b1 20 len, fk_ai E b2 300 ev, fk_ai E b3 2 mc, fk_ai E b4 28 mi, fk_ai E b5 28 mu, fk_ai E b6 2 mfi, fk_ai E b7 2 mla, fk_ai E b8 2 mac, fk_ai E b12 16 tk]) (w2 := fun _ => [(b0, .inr (6, [.int (nI mt), .ref b1, .ref b2, .ref b3, .ref b4, .ref b5, .ref b6, .ref b7, .ref b8, .ref b9, .int (nI mf), .ref b10, .ref b11, .ref b12, .int (nI my), .int (nI (Bool.toNat mw)), .ref b13, .ref b14, .ref b15])), fk_ai E b1 20 len, fk_ai E b2 300 ev, fk_ai E b3 2 mc, fk_ai E b4 28 mi, fk_ai E b5 28 mu, fk_ai E b6 2 mfi, fk_ai E b7 2 mla, fk_ai E b8 2 mac, fk_ai E b12 16 tk]) (cD_notNet E q (by first | omega | assumption)) d_Md_fits_1 fz_Md_notNet fw_627 fw_628 ⟨Nat.le_of_ble_eq_true rfl, Nat.le_of_ble_eq_true rfl⟩ rfl (Nat.le_of_ble_eq_true rfl) ⟨Nat.zero_le _, Nat.zero_le _⟩ ⟨rfl, rfl, rfl, rfl, by decide, fun _ => rfl, rfl⟩ (fun u hu1 => ?_)
  show fk_V E _ K (0, 0) [(b0, .inr (6, [.int (nI mt), .ref b1, .ref b2, .ref b3, .ref b4, .ref b5, .ref b6, .ref b7, .ref b8, .ref b9, .int (nI mf), .ref b10, .ref b11, .ref b12, .int (nI my), .int (nI (Bool.toNat mw)), .ref b13, .ref b14, .ref b15])), fk_ai E b1 20 len, fk_ai E b2 300 ev, fk_ai E b3 2 mc, fk_ai E b4 28 mi, fk_ai E b5 28 mu, fk_ai E b6 2 mfi, fk_ai E b7 2 mla, fk_ai E b8 2 mac, fk_ai E b12 16 tk] 4 [(0, .ref b0), (1, .int (nI q)), (2, .int y)] [.int (nI (Bool.toNat (decide (2 ≤ q))))]
  refine fk_if_neB (b := (decide (2 ≤ q))) d_Md_fits_4 rfl (fun h4t => ?_) (fun h4f => ?_)
  · exact absurd (of_decide_eq_true h4t) (by omega)
  · refine fk_iload_n 2 d_Md_fits_7 rfl ?_
    refine fk_if_ltR d_Md_fits_8 rfl (fun h8t => ?_) (fun h8f => ?_)
    · refine fk_iconst (v := nI 0) d_Md_fits_19 (by decide +kernel) ?_
      refine fk_top (fn_rf (b := false) (by first | assumption | (simp; omega) | simp_all | (simp_all; omega))) ?_
      exact hret (0, 0) _ 20 _ () d_Md_fits_20 (trivial) (rfl)
    · exact absurd hy h8f
set_option maxRecDepth 20000 in
set_option maxHeartbeats 4000000 in
theorem cD_fitsO (E : fk_E) (b0 : Nat) (b1 : Nat) (b2 : Nat) (b3 : Nat) (b4 : Nat) (b5 : Nat) (b6 : Nat) (b7 : Nat) (b8 : Nat) (b9 : Nat) (b10 : Nat) (b11 : Nat) (b12 : Nat) (b13 : Nat) (b14 : Nat) (b15 : Nat) (mt : Nat) (mf : Nat) (my : Nat) (mw : Bool) (q : Nat) (y : Int32) (h : 2 ≤ q) (hq : q < 2 ^ 31) : fk_C E fy_Md_fits prog_8_method_27_code 5 (some .boolean) 3 0 0 [.ref b0, .int (nI q), .int y] [(b0, .inr (6, [.int (nI mt), .ref b1, .ref b2, .ref b3, .ref b4, .ref b5, .ref b6, .ref b7, .ref b8, .ref b9, .int (nI mf), .ref b10, .ref b11, .ref b12, .int (nI my), .int (nI (Bool.toNat mw)), .ref b13, .ref b14, .ref b15]))] (S := Unit) (fun _ => some (.int (nI (Bool.toNat false)))) (fun _ => True) (fun _ => [(b0, .inr (6, [.int (nI mt), .ref b1, .ref b2, .ref b3, .ref b4, .ref b5, .ref b6, .ref b7, .ref b8, .ref b9, .int (nI mf), .ref b10, .ref b11, .ref b12, .int (nI my), .int (nI (Bool.toNat mw)), .ref b13, .ref b14, .ref b15]))]) := by
  refine fk_enterZ (v := fun _ => false) (by decide) (Nat.le_of_ble_eq_true rfl) (lv0 := [(0, .ref b0), (1, .int (nI q)), (2, .int y)]) rfl ?_
  intro K hini hret
  refine fk_iload_n 1 d_Md_fits_0 rfl ?_
  refine fk_callS (As := [.int (nI q)]) (rest := []) (is := []) (ir := [0]) (ip := [0]) (wc := []) (wr := [(b0, .inr (6, [.int (nI mt), .ref b1, .ref b2, .ref b3, .ref b4, .ref b5, .ref b6, .ref b7, .ref b8, .ref b9, .int (nI mf), .ref b10, .ref b11, .ref b12, .int (nI my), .int (nI (Bool.toNat mw)), .ref b13, .ref b14, .ref b15]))]) (w2 := fun _ => [(b0, .inr (6, [.int (nI mt), .ref b1, .ref b2, .ref b3, .ref b4, .ref b5, .ref b6, .ref b7, .ref b8, .ref b9, .int (nI mf), .ref b10, .ref b11, .ref b12, .int (nI my), .int (nI (Bool.toNat mw)), .ref b13, .ref b14, .ref b15]))]) (cD_notNet E q (by first | omega | assumption)) d_Md_fits_1 fz_Md_notNet fw_627 fw_628 ⟨Nat.le_of_ble_eq_true rfl, Nat.le_of_ble_eq_true rfl⟩ rfl (Nat.le_of_ble_eq_true rfl) ⟨Nat.zero_le _, Nat.zero_le _⟩ ⟨rfl, rfl, rfl, rfl, by decide, fun _ => rfl, rfl⟩ (fun u hu1 => ?_)
  show fk_V E _ K (0, 0) [(b0, .inr (6, [.int (nI mt), .ref b1, .ref b2, .ref b3, .ref b4, .ref b5, .ref b6, .ref b7, .ref b8, .ref b9, .int (nI mf), .ref b10, .ref b11, .ref b12, .int (nI my), .int (nI (Bool.toNat mw)), .ref b13, .ref b14, .ref b15]))] 4 [(0, .ref b0), (1, .int (nI q)), (2, .int y)] [.int (nI (Bool.toNat (decide (2 ≤ q))))]
  refine fk_if_neB (b := (decide (2 ≤ q))) d_Md_fits_4 rfl (fun h4t => ?_) (fun h4f => ?_)
  · refine fk_iconst (v := nI 0) d_Md_fits_19 (by decide +kernel) ?_
    refine fk_top (fn_rf (b := false) (by first | assumption | (simp; omega) | simp_all | (simp_all; omega))) ?_
    exact hret (0, 0) _ 20 _ () d_Md_fits_20 (trivial) (rfl)
  · exact absurd (of_decide_eq_false h4f) (by omega)
set_option maxRecDepth 20000 in
set_option maxHeartbeats 4000000 in
theorem cD_fitsM (E : fk_E) (b0 : Nat) (b1 : Nat) (b2 : Nat) (b3 : Nat) (b4 : Nat) (b5 : Nat) (b6 : Nat) (b7 : Nat) (b8 : Nat) (b9 : Nat) (b10 : Nat) (b11 : Nat) (b12 : Nat) (b13 : Nat) (b14 : Nat) (b15 : Nat) (mt : Nat) (mf : Nat) (my : Nat) (mw : Bool) (x : Int32) (y : Int32) (hx : x < 0) : fk_C E fy_Md_fits prog_8_method_27_code 5 (some .boolean) 3 0 0 [.ref b0, .int x, .int y] [(b0, .inr (6, [.int (nI mt), .ref b1, .ref b2, .ref b3, .ref b4, .ref b5, .ref b6, .ref b7, .ref b8, .ref b9, .int (nI mf), .ref b10, .ref b11, .ref b12, .int (nI my), .int (nI (Bool.toNat mw)), .ref b13, .ref b14, .ref b15]))] (S := Unit) (fun _ => some (.int (nI (Bool.toNat false)))) (fun _ => True) (fun _ => [(b0, .inr (6, [.int (nI mt), .ref b1, .ref b2, .ref b3, .ref b4, .ref b5, .ref b6, .ref b7, .ref b8, .ref b9, .int (nI mf), .ref b10, .ref b11, .ref b12, .int (nI my), .int (nI (Bool.toNat mw)), .ref b13, .ref b14, .ref b15]))]) := by
  refine fk_enterZ (v := fun _ => false) (by decide) (Nat.le_of_ble_eq_true rfl) (lv0 := [(0, .ref b0), (1, .int x), (2, .int y)]) rfl ?_
  intro K hini hret
  refine fk_iload_n 1 d_Md_fits_0 rfl ?_
  refine fk_callS (As := [.int x]) (rest := []) (is := []) (ir := [0]) (ip := [0]) (wc := []) (wr := [(b0, .inr (6, [.int (nI mt), .ref b1, .ref b2, .ref b3, .ref b4, .ref b5, .ref b6, .ref b7, .ref b8, .ref b9, .int (nI mf), .ref b10, .ref b11, .ref b12, .int (nI my), .int (nI (Bool.toNat mw)), .ref b13, .ref b14, .ref b15]))]) (w2 := fun _ => [(b0, .inr (6, [.int (nI mt), .ref b1, .ref b2, .ref b3, .ref b4, .ref b5, .ref b6, .ref b7, .ref b8, .ref b9, .int (nI mf), .ref b10, .ref b11, .ref b12, .int (nI my), .int (nI (Bool.toNat mw)), .ref b13, .ref b14, .ref b15]))]) (cD_notNetM E x (by first | omega | assumption)) d_Md_fits_1 fz_Md_notNet fw_627 fw_628 ⟨Nat.le_of_ble_eq_true rfl, Nat.le_of_ble_eq_true rfl⟩ rfl (Nat.le_of_ble_eq_true rfl) ⟨Nat.zero_le _, Nat.zero_le _⟩ ⟨rfl, rfl, rfl, rfl, by decide, fun _ => rfl, rfl⟩ (fun u hu1 => ?_)
  show fk_V E _ K (0, 0) [(b0, .inr (6, [.int (nI mt), .ref b1, .ref b2, .ref b3, .ref b4, .ref b5, .ref b6, .ref b7, .ref b8, .ref b9, .int (nI mf), .ref b10, .ref b11, .ref b12, .int (nI my), .int (nI (Bool.toNat mw)), .ref b13, .ref b14, .ref b15]))] 4 [(0, .ref b0), (1, .int x), (2, .int y)] [.int (nI (Bool.toNat true))]
  refine fk_if_neB (b := true) d_Md_fits_4 rfl (fun h4t => ?_) (fun h4f => ?_)
  · refine fk_iconst (v := nI 0) d_Md_fits_19 (by decide +kernel) ?_
    refine fk_top (fn_rf (b := false) (by first | assumption | (simp; omega) | simp_all | (simp_all; omega))) ?_
    exact hret (0, 0) _ 20 _ () d_Md_fits_20 (trivial) (rfl)
  · exact absurd h4f (by decide)
theorem d_Md_load_0 : decode prog_8_method_28_code 0 = .ok (.iconst 0, 1) := by decide +kernel
theorem d_Md_load_1 : decode prog_8_method_28_code 1 = .ok (.istore_n 2, 1) := by decide +kernel
theorem d_Md_load_2 : decode prog_8_method_28_code 2 = .ok (.iload_n 2, 1) := by decide +kernel
theorem d_Md_load_3 : decode prog_8_method_28_code 3 = .ok (.bipush 16, 2) := by decide +kernel
theorem d_Md_load_5 : decode prog_8_method_28_code 5 = .ok (.if_icmp .ge 26, 3) := by decide +kernel
theorem d_Md_load_8 : decode prog_8_method_28_code 8 = .ok (.aload_n 0, 1) := by decide +kernel
theorem d_Md_load_9 : decode prog_8_method_28_code 9 = .ok (.getfield 43, 3) := by decide +kernel
theorem d_Md_load_12 : decode prog_8_method_28_code 12 = .ok (.iload_n 2, 1) := by decide +kernel
theorem d_Md_load_13 : decode prog_8_method_28_code 13 = .ok (.aload_n 0, 1) := by decide +kernel
theorem d_Md_load_14 : decode prog_8_method_28_code 14 = .ok (.getfield 46, 3) := by decide +kernel
theorem d_Md_load_17 : decode prog_8_method_28_code 17 = .ok (.bipush 16, 2) := by decide +kernel
theorem d_Md_load_19 : decode prog_8_method_28_code 19 = .ok (.iload_n 1, 1) := by decide +kernel
theorem d_Md_load_20 : decode prog_8_method_28_code 20 = .ok (.imul, 1) := by decide +kernel
theorem d_Md_load_21 : decode prog_8_method_28_code 21 = .ok (.iload_n 2, 1) := by decide +kernel
theorem d_Md_load_22 : decode prog_8_method_28_code 22 = .ok (.iadd, 1) := by decide +kernel
theorem d_Md_load_23 : decode prog_8_method_28_code 23 = .ok (.baload, 1) := by decide +kernel
theorem d_Md_load_24 : decode prog_8_method_28_code 24 = .ok (.iastore, 1) := by decide +kernel
theorem d_Md_load_25 : decode prog_8_method_28_code 25 = .ok (.iinc 2 1, 3) := by decide +kernel
theorem d_Md_load_28 : decode prog_8_method_28_code 28 = .ok (.goto (-26), 3) := by decide +kernel
theorem d_Md_load_31 : decode prog_8_method_28_code 31 = .ok (.return_, 1) := by decide +kernel
set_option maxRecDepth 20000 in
set_option maxHeartbeats 4000000 in
theorem cD_load (E : fk_E) (b0 : Nat) (b1 : Nat) (b2 : Nat) (b3 : Nat) (b4 : Nat) (b5 : Nat) (b6 : Nat) (b7 : Nat) (b8 : Nat) (b9 : Nat) (b10 : Nat) (b11 : Nat) (b12 : Nat) (b13 : Nat) (b14 : Nat) (b15 : Nat) (mt : Nat) (mf : Nat) (my : Nat) (mw : Bool) (tk : Nat → Nat) (mmk : Nat → Nat) (m : Nat) (hm : m < 201) : fk_C E fy_Md_load prog_8_method_28_code 3 none 0 0 0 [.ref b0, .int (nI m)] [(b0, .inr (6, [.int (nI mt), .ref b1, .ref b2, .ref b3, .ref b4, .ref b5, .ref b6, .ref b7, .ref b8, .ref b9, .int (nI mf), .ref b10, .ref b11, .ref b12, .int (nI my), .int (nI (Bool.toNat mw)), .ref b13, .ref b14, .ref b15])), fk_ai E b12 16 tk, fk_ab E b13 3216 mmk] (S := (Nat → Nat)) (fun (u : (Nat → Nat)) => none) (fun (u : (Nat → Nat)) => ∀ z, z < 16 → u z = mmk (16 * m + z)) (fun (u : (Nat → Nat)) => [(b0, .inr (6, [.int (nI mt), .ref b1, .ref b2, .ref b3, .ref b4, .ref b5, .ref b6, .ref b7, .ref b8, .ref b9, .int (nI mf), .ref b10, .ref b11, .ref b12, .int (nI my), .int (nI (Bool.toNat mw)), .ref b13, .ref b14, .ref b15])), fk_ai E b12 16 u, fk_ab E b13 3216 mmk]) := by
  refine fk_enterV (by decide) (Nat.le_of_ble_eq_true rfl) (lv0 := [(0, .ref b0), (1, .int (nI m))]) rfl ?_
  intro K hini hret
  refine fk_iconst (v := nI 0) d_Md_load_0 (by decide +kernel) ?_
  refine fk_istore_n (lv' := [(0, .ref b0), (1, .int (nI m)), (2, .int (nI 0))]) d_Md_load_1 rfl (Nat.le_of_ble_eq_true rfl) [1, 2, 0] rfl ?_
  have L2 : ∀ (fuel : Nat) (i : Nat) (t1 : Nat → Nat), (i ≤ 16) → (∀ z, z < i → t1 z = mmk (16 * m + z)) → 16 - i < fuel → fk_V E (prog_8_method_28_code, fy_Md_load.cls, 3, fk_rm 0 0 0) K (0, 0) [(b0, .inr (6, [.int (nI mt), .ref b1, .ref b2, .ref b3, .ref b4, .ref b5, .ref b6, .ref b7, .ref b8, .ref b9, .int (nI mf), .ref b10, .ref b11, .ref b12, .int (nI my), .int (nI (Bool.toNat mw)), .ref b13, .ref b14, .ref b15])), fk_ai E b12 16 t1, fk_ab E b13 3216 mmk] 2 [(0, .ref b0), (1, .int (nI m)), (2, .int (nI i))] [] := by
    intro fuel
    induction fuel with
    | zero => intro i t1 _ _ hm; exact absurd hm (Nat.not_lt_zero _)
    | succ fuel ih =>
      intro i t1 h1 h2 hm2
      have ih2 := ih
      clear ih
      refine fk_iload_n 2 d_Md_load_2 rfl ?_
      refine fk_bipush (v := nI 16) d_Md_load_3 (by decide +kernel) ?_
      refine fk_icmp_ge (a := i) (b := 16) (by omega) (by omega) d_Md_load_5 rfl (fun h5t => ?_) (fun h5f => ?_)
      · have hpp : ∀ z, z < 16 → t1 z = mmk (16 * m + z) := fun z hz => h2 z (by omega)
        exact hret (0, 0) _ 31 _ t1 d_Md_load_31 (hpp) (rfl)
      · refine fk_aload_n 0 d_Md_load_8 rfl ?_
        refine fk_get 0 13 rfl rfl fh_Md (Nat.le_of_ble_eq_true rfl) fw_520 rfl d_Md_load_9 ?_
        refine fk_iload_n 2 d_Md_load_12 rfl ?_
        refine fk_aload_n 0 d_Md_load_13 rfl ?_
        refine fk_get 0 16 rfl rfl fh_Md (Nat.le_of_ble_eq_true rfl) fw_523 rfl d_Md_load_14 ?_
        refine fk_bipush (v := nI 16) d_Md_load_17 (by decide +kernel) ?_
        refine fk_iload_n 1 d_Md_load_19 rfl ?_
        refine fk_imul (a := 16) (b := m) d_Md_load_20 ?_
        refine fk_iload_n 2 d_Md_load_21 rfl ?_
        refine fk_iadd (a := (16 * m)) (b := i) d_Md_load_22 ?_
        refine fk_ld_ab (i := ((16 * m) + i)) 2 rfl (by omega) (by decide) d_Md_load_23 ?_
        refine fk_st_ai (i := i) (x := (mmk ((16 * m) + i))) (w' := [(b0, .inr (6, [.int (nI mt), .ref b1, .ref b2, .ref b3, .ref b4, .ref b5, .ref b6, .ref b7, .ref b8, .ref b9, .int (nI mf), .ref b10, .ref b11, .ref b12, .int (nI my), .int (nI (Bool.toNat mw)), .ref b13, .ref b14, .ref b15])), fk_ai E b12 16 (va_up t1 i (mmk ((16 * m) + i))), fk_ab E b13 3216 mmk]) 1 rfl (by omega) (by decide) d_Md_load_24 rfl ?_
        refine fk_iinc (j := 2) (lv' := [(0, .ref b0), (1, .int (nI m)), (2, .int (nI (i + 1)))]) (i + 1) d_Md_load_25 rfl (nI_1 i) (Nat.le_of_ble_eq_true rfl) [1, 2, 0] rfl ?_
        refine fk_goto d_Md_load_28 rfl ?_
        refine ih2 _ _ ?_ ?_ ?_
        · first | omega | assumption | exact Nat.zero_le _
        · intro z hz
          rcases Nat.lt_or_ge z i with w | w
          · rw [va_up_ne _ _ (by omega)]; exact h2 z w
          · rw [show z = i by omega, va_up_self]
        · omega
  refine L2 _ _ _ ?_ ?_ (Nat.lt_succ_self _)
  · first | omega | assumption | exact Nat.zero_le _
  · exact fun z hz => absurd hz (Nat.not_lt_zero z)
theorem d_Md_number_0 : decode prog_8_method_29_code 0 = .ok (.iconst 0, 1) := by decide +kernel
theorem d_Md_number_1 : decode prog_8_method_29_code 1 = .ok (.istore_n 1, 1) := by decide +kernel
theorem d_Md_number_2 : decode prog_8_method_29_code 2 = .ok (.iload_n 1, 1) := by decide +kernel
theorem d_Md_number_3 : decode prog_8_method_29_code 3 = .ok (.aload_n 0, 1) := by decide +kernel
theorem d_Md_number_4 : decode prog_8_method_29_code 4 = .ok (.getfield 111, 3) := by decide +kernel
theorem d_Md_number_7 : decode prog_8_method_29_code 7 = .ok (.if_icmp .ge 61, 3) := by decide +kernel
theorem d_Md_number_10 : decode prog_8_method_29_code 10 = .ok (.iconst 1, 1) := by decide +kernel
theorem d_Md_number_11 : decode prog_8_method_29_code 11 = .ok (.istore_n 2, 1) := by decide +kernel
theorem d_Md_number_12 : decode prog_8_method_29_code 12 = .ok (.iconst 0, 1) := by decide +kernel
theorem d_Md_number_13 : decode prog_8_method_29_code 13 = .ok (.istore_n 3, 1) := by decide +kernel
theorem d_Md_number_14 : decode prog_8_method_29_code 14 = .ok (.iload_n 3, 1) := by decide +kernel
theorem d_Md_number_15 : decode prog_8_method_29_code 15 = .ok (.bipush 16, 2) := by decide +kernel
theorem d_Md_number_17 : decode prog_8_method_29_code 17 = .ok (.if_icmp .ge 39, 3) := by decide +kernel
theorem d_Md_number_20 : decode prog_8_method_29_code 20 = .ok (.iload_n 2, 1) := by decide +kernel
theorem d_Md_number_21 : decode prog_8_method_29_code 21 = .ok (.ifCond .eq 27, 3) := by decide +kernel
theorem d_Md_number_24 : decode prog_8_method_29_code 24 = .ok (.aload_n 0, 1) := by decide +kernel
theorem d_Md_number_25 : decode prog_8_method_29_code 25 = .ok (.getfield 46, 3) := by decide +kernel
theorem d_Md_number_28 : decode prog_8_method_29_code 28 = .ok (.bipush 16, 2) := by decide +kernel
theorem d_Md_number_30 : decode prog_8_method_29_code 30 = .ok (.iload_n 1, 1) := by decide +kernel
theorem d_Md_number_31 : decode prog_8_method_29_code 31 = .ok (.imul, 1) := by decide +kernel
theorem d_Md_number_32 : decode prog_8_method_29_code 32 = .ok (.iload_n 3, 1) := by decide +kernel
theorem d_Md_number_33 : decode prog_8_method_29_code 33 = .ok (.iadd, 1) := by decide +kernel
theorem d_Md_number_34 : decode prog_8_method_29_code 34 = .ok (.baload, 1) := by decide +kernel
theorem d_Md_number_35 : decode prog_8_method_29_code 35 = .ok (.aload_n 0, 1) := by decide +kernel
theorem d_Md_number_36 : decode prog_8_method_29_code 36 = .ok (.getfield 43, 3) := by decide +kernel
theorem d_Md_number_39 : decode prog_8_method_29_code 39 = .ok (.iload_n 3, 1) := by decide +kernel
theorem d_Md_number_40 : decode prog_8_method_29_code 40 = .ok (.iaload, 1) := by decide +kernel
theorem d_Md_number_41 : decode prog_8_method_29_code 41 = .ok (.if_icmp .ne 7, 3) := by decide +kernel
theorem d_Md_number_44 : decode prog_8_method_29_code 44 = .ok (.iconst 1, 1) := by decide +kernel
theorem d_Md_number_45 : decode prog_8_method_29_code 45 = .ok (.goto 4, 3) := by decide +kernel
theorem d_Md_number_48 : decode prog_8_method_29_code 48 = .ok (.iconst 0, 1) := by decide +kernel
theorem d_Md_number_49 : decode prog_8_method_29_code 49 = .ok (.istore_n 2, 1) := by decide +kernel
theorem d_Md_number_50 : decode prog_8_method_29_code 50 = .ok (.iinc 3 1, 3) := by decide +kernel
theorem d_Md_number_53 : decode prog_8_method_29_code 53 = .ok (.goto (-39), 3) := by decide +kernel
theorem d_Md_number_56 : decode prog_8_method_29_code 56 = .ok (.iload_n 2, 1) := by decide +kernel
theorem d_Md_number_57 : decode prog_8_method_29_code 57 = .ok (.ifCond .eq 5, 3) := by decide +kernel
theorem d_Md_number_60 : decode prog_8_method_29_code 60 = .ok (.iload_n 1, 1) := by decide +kernel
theorem d_Md_number_61 : decode prog_8_method_29_code 61 = .ok (.ireturn, 1) := by decide +kernel
theorem d_Md_number_62 : decode prog_8_method_29_code 62 = .ok (.iinc 1 1, 3) := by decide +kernel
theorem d_Md_number_65 : decode prog_8_method_29_code 65 = .ok (.goto (-63), 3) := by decide +kernel
theorem d_Md_number_68 : decode prog_8_method_29_code 68 = .ok (.iconst 0, 1) := by decide +kernel
theorem d_Md_number_69 : decode prog_8_method_29_code 69 = .ok (.istore_n 1, 1) := by decide +kernel
theorem d_Md_number_70 : decode prog_8_method_29_code 70 = .ok (.iload_n 1, 1) := by decide +kernel
theorem d_Md_number_71 : decode prog_8_method_29_code 71 = .ok (.bipush 16, 2) := by decide +kernel
theorem d_Md_number_73 : decode prog_8_method_29_code 73 = .ok (.if_icmp .ge 57, 3) := by decide +kernel
theorem d_Md_number_76 : decode prog_8_method_29_code 76 = .ok (.aload_n 0, 1) := by decide +kernel
theorem d_Md_number_77 : decode prog_8_method_29_code 77 = .ok (.getfield 46, 3) := by decide +kernel
theorem d_Md_number_80 : decode prog_8_method_29_code 80 = .ok (.bipush 16, 2) := by decide +kernel
theorem d_Md_number_82 : decode prog_8_method_29_code 82 = .ok (.aload_n 0, 1) := by decide +kernel
theorem d_Md_number_83 : decode prog_8_method_29_code 83 = .ok (.getfield 111, 3) := by decide +kernel
theorem d_Md_number_86 : decode prog_8_method_29_code 86 = .ok (.imul, 1) := by decide +kernel
theorem d_Md_number_87 : decode prog_8_method_29_code 87 = .ok (.iload_n 1, 1) := by decide +kernel
theorem d_Md_number_88 : decode prog_8_method_29_code 88 = .ok (.iadd, 1) := by decide +kernel
theorem d_Md_number_89 : decode prog_8_method_29_code 89 = .ok (.aload_n 0, 1) := by decide +kernel
theorem d_Md_number_90 : decode prog_8_method_29_code 90 = .ok (.getfield 43, 3) := by decide +kernel
theorem d_Md_number_93 : decode prog_8_method_29_code 93 = .ok (.iload_n 1, 1) := by decide +kernel
theorem d_Md_number_94 : decode prog_8_method_29_code 94 = .ok (.iaload, 1) := by decide +kernel
theorem d_Md_number_95 : decode prog_8_method_29_code 95 = .ok (.i2b, 1) := by decide +kernel
theorem d_Md_number_96 : decode prog_8_method_29_code 96 = .ok (.bastore, 1) := by decide +kernel
theorem d_Md_number_97 : decode prog_8_method_29_code 97 = .ok (.aload_n 0, 1) := by decide +kernel
theorem d_Md_number_98 : decode prog_8_method_29_code 98 = .ok (.aload_n 0, 1) := by decide +kernel
theorem d_Md_number_99 : decode prog_8_method_29_code 99 = .ok (.getfield 114, 3) := by decide +kernel
theorem d_Md_number_102 : decode prog_8_method_29_code 102 = .ok (.ifCond .ne 14, 3) := by decide +kernel
theorem d_Md_number_105 : decode prog_8_method_29_code 105 = .ok (.aload_n 0, 1) := by decide +kernel
theorem d_Md_number_106 : decode prog_8_method_29_code 106 = .ok (.getfield 43, 3) := by decide +kernel
theorem d_Md_number_109 : decode prog_8_method_29_code 109 = .ok (.iload_n 1, 1) := by decide +kernel
theorem d_Md_number_110 : decode prog_8_method_29_code 110 = .ok (.iaload, 1) := by decide +kernel
theorem d_Md_number_111 : decode prog_8_method_29_code 111 = .ok (.bipush 7, 2) := by decide +kernel
theorem d_Md_number_113 : decode prog_8_method_29_code 113 = .ok (.if_icmp .le 7, 3) := by decide +kernel
theorem d_Md_number_116 : decode prog_8_method_29_code 116 = .ok (.iconst 1, 1) := by decide +kernel
theorem d_Md_number_117 : decode prog_8_method_29_code 117 = .ok (.goto 4, 3) := by decide +kernel
theorem d_Md_number_120 : decode prog_8_method_29_code 120 = .ok (.iconst 0, 1) := by decide +kernel
theorem d_Md_number_121 : decode prog_8_method_29_code 121 = .ok (.putfield 114, 3) := by decide +kernel
theorem d_Md_number_124 : decode prog_8_method_29_code 124 = .ok (.iinc 1 1, 3) := by decide +kernel
theorem d_Md_number_127 : decode prog_8_method_29_code 127 = .ok (.goto (-57), 3) := by decide +kernel
theorem d_Md_number_130 : decode prog_8_method_29_code 130 = .ok (.aload_n 0, 1) := by decide +kernel
theorem d_Md_number_131 : decode prog_8_method_29_code 131 = .ok (.dup, 1) := by decide +kernel
theorem d_Md_number_132 : decode prog_8_method_29_code 132 = .ok (.getfield 111, 3) := by decide +kernel
theorem d_Md_number_135 : decode prog_8_method_29_code 135 = .ok (.iconst 1, 1) := by decide +kernel
theorem d_Md_number_136 : decode prog_8_method_29_code 136 = .ok (.iadd, 1) := by decide +kernel
theorem d_Md_number_137 : decode prog_8_method_29_code 137 = .ok (.putfield 111, 3) := by decide +kernel
theorem d_Md_number_140 : decode prog_8_method_29_code 140 = .ok (.aload_n 0, 1) := by decide +kernel
theorem d_Md_number_141 : decode prog_8_method_29_code 141 = .ok (.getfield 111, 3) := by decide +kernel
theorem d_Md_number_144 : decode prog_8_method_29_code 144 = .ok (.iconst 1, 1) := by decide +kernel
theorem d_Md_number_145 : decode prog_8_method_29_code 145 = .ok (.isub, 1) := by decide +kernel
theorem d_Md_number_146 : decode prog_8_method_29_code 146 = .ok (.ireturn, 1) := by decide +kernel
set_option maxRecDepth 20000 in
set_option maxHeartbeats 4000000 in
theorem cD_number (E : fk_E) (b0 : Nat) (b1 : Nat) (b2 : Nat) (b3 : Nat) (b4 : Nat) (b5 : Nat) (b6 : Nat) (b7 : Nat) (b8 : Nat) (b9 : Nat) (b10 : Nat) (b11 : Nat) (b12 : Nat) (b13 : Nat) (b14 : Nat) (b15 : Nat) (mt : Nat) (mf : Nat) (my : Nat) (mw : Bool) (tk : Nat → Nat) (mmk : Nat → Nat) (s : Nat → Nat) (y : Nat) (hc : my ≤ 200) (hM : fr_M my mmk s) (hs : ∀ i, i < my → s i < 2 ^ 64) (hT : fr_T tk y) (hy : y < 2 ^ 64) : fk_C E fy_Md_number prog_8_method_29_code 4 (some .int) 0 0 0 [.ref b0] [(b0, .inr (6, [.int (nI mt), .ref b1, .ref b2, .ref b3, .ref b4, .ref b5, .ref b6, .ref b7, .ref b8, .ref b9, .int (nI mf), .ref b10, .ref b11, .ref b12, .int (nI my), .int (nI (Bool.toNat mw)), .ref b13, .ref b14, .ref b15])), fk_ai E b12 16 tk, fk_ab E b13 3216 mmk] (S := Nat × Bool × (Nat → Nat)) (fun (u : Nat × Bool × (Nat → Nat)) => some (.int (nI (fe_find s y my)))) (fun (u : Nat × Bool × (Nat → Nat)) => fr_nu my mw mmk s y u.1 u.2.1 u.2.2) (fun (u : Nat × Bool × (Nat → Nat)) => [(b0, .inr (6, [.int (nI mt), .ref b1, .ref b2, .ref b3, .ref b4, .ref b5, .ref b6, .ref b7, .ref b8, .ref b9, .int (nI mf), .ref b10, .ref b11, .ref b12, .int (nI u.1), .int (nI (Bool.toNat u.2.1)), .ref b13, .ref b14, .ref b15])), fk_ai E b12 16 tk, fk_ab E b13 3216 u.2.2]) := by
  refine fk_enterI (v := fun (u : Nat × Bool × (Nat → Nat)) => (nI (fe_find s y my))) (by decide) (Nat.le_of_ble_eq_true rfl) (lv0 := [(0, .ref b0)]) rfl ?_
  intro K hini hret
  refine fk_iconst (v := nI 0) d_Md_number_0 (by decide +kernel) ?_
  refine fk_istore_n (lv' := [(0, .ref b0), (1, .int (nI 0))]) d_Md_number_1 rfl (Nat.le_of_ble_eq_true rfl) [1, 0] rfl ?_
  have L2 : ∀ (fuel : Nat) (m : Nat), (m ≤ my) → (∀ i, i < m → s i ≠ y) → my - m < fuel → fk_V E (prog_8_method_29_code, fy_Md_number.cls, 4, fk_rm 0 0 0) K (0, 0) [(b0, .inr (6, [.int (nI mt), .ref b1, .ref b2, .ref b3, .ref b4, .ref b5, .ref b6, .ref b7, .ref b8, .ref b9, .int (nI mf), .ref b10, .ref b11, .ref b12, .int (nI my), .int (nI (Bool.toNat mw)), .ref b13, .ref b14, .ref b15])), fk_ai E b12 16 tk, fk_ab E b13 3216 mmk] 2 [(0, .ref b0), (1, .int (nI m))] [] := by
    intro fuel
    induction fuel with
    | zero => intro m _ _ hm; exact absurd hm (Nat.not_lt_zero _)
    | succ fuel ih =>
      intro m h1 h2 hm2
      have ih2 := ih
      clear ih
      refine fk_iload_n 1 d_Md_number_2 rfl ?_
      refine fk_aload_n 0 d_Md_number_3 rfl ?_
      refine fk_get 0 14 rfl rfl fh_Md (Nat.le_of_ble_eq_true rfl) fw_521 rfl d_Md_number_4 ?_
      refine fk_icmp_ge (a := m) (b := my) (by omega) (by omega) d_Md_number_7 rfl (fun h7t => ?_) (fun h7f => ?_)
      · have g5 : fe_find s y my = my := fe_find_none (fun i hi => h2 i (by omega))
        refine fk_iconst (v := nI 0) d_Md_number_68 (by decide +kernel) ?_
        refine fk_istore_n (lv' := [(0, .ref b0), (1, .int (nI 0))]) d_Md_number_69 rfl (Nat.le_of_ble_eq_true rfl) [1, 0] rfl ?_
        have L70 : ∀ (fuel : Nat) (i : Nat) (w1 : Bool) (k1 : Nat → Nat), (i ≤ 16) → (w1 = (mw || fs_any (fun z => decide (7 < tk z)) i)) → (∀ k, k < 16 * my → k1 k = mmk k) → (∀ z, z < i → k1 (16 * my + z) = tk z) → 16 - i < fuel → fk_V E (prog_8_method_29_code, fy_Md_number.cls, 4, fk_rm 0 0 0) K (0, 0) [(b0, .inr (6, [.int (nI mt), .ref b1, .ref b2, .ref b3, .ref b4, .ref b5, .ref b6, .ref b7, .ref b8, .ref b9, .int (nI mf), .ref b10, .ref b11, .ref b12, .int (nI my), .int (nI (Bool.toNat w1)), .ref b13, .ref b14, .ref b15])), fk_ai E b12 16 tk, fk_ab E b13 3216 k1] 70 [(0, .ref b0), (1, .int (nI i))] [] := by
          intro fuel
          induction fuel with
          | zero => intro i w1 k1 _ _ _ _ hm; exact absurd hm (Nat.not_lt_zero _)
          | succ fuel ih =>
            intro i w1 k1 h5 h6 h7 h8 hm70
            have ih70 := ih
            clear ih
            refine fk_iload_n 1 d_Md_number_70 rfl ?_
            refine fk_bipush (v := nI 16) d_Md_number_71 (by decide +kernel) ?_
            refine fk_icmp_ge (a := i) (b := 16) (by omega) (by omega) d_Md_number_73 rfl (fun h73t => ?_) (fun h73f => ?_)
            · refine fk_aload_n 0 d_Md_number_130 rfl ?_
              refine fk_dup d_Md_number_131 rfl ?_
              refine fk_get 0 14 rfl rfl fh_Md (Nat.le_of_ble_eq_true rfl) fw_521 rfl d_Md_number_132 ?_
              refine fk_iconst (v := nI 1) d_Md_number_135 (by decide +kernel) ?_
              refine fk_iadd (a := my) (b := 1) d_Md_number_136 ?_
              refine fk_put (w' := [(b0, .inr (6, [.int (nI mt), .ref b1, .ref b2, .ref b3, .ref b4, .ref b5, .ref b6, .ref b7, .ref b8, .ref b9, .int (nI mf), .ref b10, .ref b11, .ref b12, .int (nI (my + 1)), .int (nI (Bool.toNat w1)), .ref b13, .ref b14, .ref b15])), fk_ai E b12 16 tk, fk_ab E b13 3216 k1]) 0 14 fT_Md fT_Md_ok fT_Md_nm rfl rfl fh_Md (Nat.le_of_ble_eq_true rfl) fw_521 rfl (fT_Md_ok 14 (Nat.le_of_ble_eq_true rfl)) rfl rfl (Nat.le_of_ble_eq_true rfl) d_Md_number_137 rfl ?_
              refine fk_aload_n 0 d_Md_number_140 rfl ?_
              refine fk_get 0 14 rfl rfl fh_Md (Nat.le_of_ble_eq_true rfl) fw_521 rfl d_Md_number_141 ?_
              refine fk_iconst (v := nI 1) d_Md_number_144 (by decide +kernel) ?_
              refine fk_isub (a := (my + 1)) (b := 1) d_Md_number_145 (by omega) ?_
              refine fk_top (congrArg nI (show (my + 1) - 1 = fe_find s y my from by rw [g5]; omega)) ?_
              have hpp : fr_nu my mw mmk s y (my + 1) w1 k1 := ⟨fun q => absurd q (by omega), fun _ => ⟨rfl, by rw [h6, show i = 16 by omega, fr_w8 hT], fr_M_add hM hT h7 (fun z hz => h8 z (by omega))⟩⟩
              exact hret (0, 0) _ 146 _ (my + 1, w1, k1) d_Md_number_146 (hpp) (rfl)
            · have g1 := fr_T_lt hT (show i < 16 by omega)
              refine fk_aload_n 0 d_Md_number_76 rfl ?_
              refine fk_get 0 16 rfl rfl fh_Md (Nat.le_of_ble_eq_true rfl) fw_523 rfl d_Md_number_77 ?_
              refine fk_bipush (v := nI 16) d_Md_number_80 (by decide +kernel) ?_
              refine fk_aload_n 0 d_Md_number_82 rfl ?_
              refine fk_get 0 14 rfl rfl fh_Md (Nat.le_of_ble_eq_true rfl) fw_521 rfl d_Md_number_83 ?_
              refine fk_imul (a := 16) (b := my) d_Md_number_86 ?_
              refine fk_iload_n 1 d_Md_number_87 rfl ?_
              refine fk_iadd (a := (16 * my)) (b := i) d_Md_number_88 ?_
              refine fk_aload_n 0 d_Md_number_89 rfl ?_
              refine fk_get 0 13 rfl rfl fh_Md (Nat.le_of_ble_eq_true rfl) fw_520 rfl d_Md_number_90 ?_
              refine fk_iload_n 1 d_Md_number_93 rfl ?_
              refine fk_ld_ai (i := i) 1 rfl (by omega) (by decide) d_Md_number_94 ?_
              refine fk_i2b d_Md_number_95 (fn_i2b (by omega)) ?_
              refine fk_st_ab (i := ((16 * my) + i)) (x := (tk i)) (w' := [(b0, .inr (6, [.int (nI mt), .ref b1, .ref b2, .ref b3, .ref b4, .ref b5, .ref b6, .ref b7, .ref b8, .ref b9, .int (nI mf), .ref b10, .ref b11, .ref b12, .int (nI my), .int (nI (Bool.toNat w1)), .ref b13, .ref b14, .ref b15])), fk_ai E b12 16 tk, fk_ab E b13 3216 (va_up k1 ((16 * my) + i) (tk i))]) 2 rfl (by omega) (by decide) (fn_nb (by omega)) d_Md_number_96 rfl ?_
              refine fk_aload_n 0 d_Md_number_97 rfl ?_
              refine fk_aload_n 0 d_Md_number_98 rfl ?_
              refine fk_get 0 15 rfl rfl fh_Md (Nat.le_of_ble_eq_true rfl) fw_522 rfl d_Md_number_99 ?_
              refine fk_if_neB (b := w1) d_Md_number_102 rfl (fun h102t => ?_) (fun h102f => ?_)
              · refine fk_iconst (v := nI 1) d_Md_number_116 (by decide +kernel) ?_
                refine fk_goto d_Md_number_117 rfl ?_
                refine fk_put (w' := [(b0, .inr (6, [.int (nI mt), .ref b1, .ref b2, .ref b3, .ref b4, .ref b5, .ref b6, .ref b7, .ref b8, .ref b9, .int (nI mf), .ref b10, .ref b11, .ref b12, .int (nI my), .int (nI (Bool.toNat true)), .ref b13, .ref b14, .ref b15])), fk_ai E b12 16 tk, fk_ab E b13 3216 (va_up k1 ((16 * my) + i) (tk i))]) 0 15 fT_Md fT_Md_ok fT_Md_nm rfl rfl fh_Md (Nat.le_of_ble_eq_true rfl) fw_522 rfl (fT_Md_ok 15 (Nat.le_of_ble_eq_true rfl)) (by first | rfl | decide +kernel) (by first | rfl | decide +kernel) (Nat.le_of_ble_eq_true rfl) d_Md_number_121 rfl ?_
                refine fk_iinc (j := 1) (lv' := [(0, .ref b0), (1, .int (nI (i + 1)))]) (i + 1) d_Md_number_124 rfl (nI_1 i) (Nat.le_of_ble_eq_true rfl) [1, 0] rfl ?_
                refine fk_goto d_Md_number_127 rfl ?_
                refine ih70 _ _ _ ?_ ?_ ?_ ?_ ?_
                · first | omega | assumption | exact Nat.zero_le _
                · rw [fs_any_s, ← Bool.or_assoc, ← h6]
                  first | rw [h102t, Bool.true_or] | rw [h102f, decide_eq_false (by omega), Bool.or_self] | rw [h102f, decide_eq_true h113f, Bool.false_or]
                · intro k hk
                  rw [va_up_ne _ _ (by omega)]
                  exact h7 k hk
                · intro z hz
                  rcases Nat.lt_or_ge z i with w | w
                  · rw [va_up_ne _ _ (by omega)]; exact h8 z w
                  · rw [show z = i by omega, va_up_self]
                · omega
              · refine fk_aload_n 0 d_Md_number_105 rfl ?_
                refine fk_get 0 13 rfl rfl fh_Md (Nat.le_of_ble_eq_true rfl) fw_520 rfl d_Md_number_106 ?_
                refine fk_iload_n 1 d_Md_number_109 rfl ?_
                refine fk_ld_ai (i := i) 1 rfl (by omega) (by decide) d_Md_number_110 ?_
                refine fk_bipush (v := nI 7) d_Md_number_111 (by decide +kernel) ?_
                refine fk_icmp_le (a := (tk i)) (b := 7) (by omega) (by omega) d_Md_number_113 rfl (fun h113t => ?_) (fun h113f => ?_)
                · refine fk_iconst (v := nI 0) d_Md_number_120 (by decide +kernel) ?_
                  refine fk_put (w' := [(b0, .inr (6, [.int (nI mt), .ref b1, .ref b2, .ref b3, .ref b4, .ref b5, .ref b6, .ref b7, .ref b8, .ref b9, .int (nI mf), .ref b10, .ref b11, .ref b12, .int (nI my), .int (nI (Bool.toNat false)), .ref b13, .ref b14, .ref b15])), fk_ai E b12 16 tk, fk_ab E b13 3216 (va_up k1 ((16 * my) + i) (tk i))]) 0 15 fT_Md fT_Md_ok fT_Md_nm rfl rfl fh_Md (Nat.le_of_ble_eq_true rfl) fw_522 rfl (fT_Md_ok 15 (Nat.le_of_ble_eq_true rfl)) (by first | rfl | decide +kernel) (by first | rfl | decide +kernel) (Nat.le_of_ble_eq_true rfl) d_Md_number_121 rfl ?_
                  refine fk_iinc (j := 1) (lv' := [(0, .ref b0), (1, .int (nI (i + 1)))]) (i + 1) d_Md_number_124 rfl (nI_1 i) (Nat.le_of_ble_eq_true rfl) [1, 0] rfl ?_
                  refine fk_goto d_Md_number_127 rfl ?_
                  refine ih70 _ _ _ ?_ ?_ ?_ ?_ ?_
                  · first | omega | assumption | exact Nat.zero_le _
                  · rw [fs_any_s, ← Bool.or_assoc, ← h6]
                    first | rw [h102t, Bool.true_or] | rw [h102f, decide_eq_false (by omega), Bool.or_self] | rw [h102f, decide_eq_true h113f, Bool.false_or]
                  · intro k hk
                    rw [va_up_ne _ _ (by omega)]
                    exact h7 k hk
                  · intro z hz
                    rcases Nat.lt_or_ge z i with w | w
                    · rw [va_up_ne _ _ (by omega)]; exact h8 z w
                    · rw [show z = i by omega, va_up_self]
                  · omega
                · refine fk_iconst (v := nI 1) d_Md_number_116 (by decide +kernel) ?_
                  refine fk_goto d_Md_number_117 rfl ?_
                  refine fk_put (w' := [(b0, .inr (6, [.int (nI mt), .ref b1, .ref b2, .ref b3, .ref b4, .ref b5, .ref b6, .ref b7, .ref b8, .ref b9, .int (nI mf), .ref b10, .ref b11, .ref b12, .int (nI my), .int (nI (Bool.toNat true)), .ref b13, .ref b14, .ref b15])), fk_ai E b12 16 tk, fk_ab E b13 3216 (va_up k1 ((16 * my) + i) (tk i))]) 0 15 fT_Md fT_Md_ok fT_Md_nm rfl rfl fh_Md (Nat.le_of_ble_eq_true rfl) fw_522 rfl (fT_Md_ok 15 (Nat.le_of_ble_eq_true rfl)) (by first | rfl | decide +kernel) (by first | rfl | decide +kernel) (Nat.le_of_ble_eq_true rfl) d_Md_number_121 rfl ?_
                  refine fk_iinc (j := 1) (lv' := [(0, .ref b0), (1, .int (nI (i + 1)))]) (i + 1) d_Md_number_124 rfl (nI_1 i) (Nat.le_of_ble_eq_true rfl) [1, 0] rfl ?_
                  refine fk_goto d_Md_number_127 rfl ?_
                  refine ih70 _ _ _ ?_ ?_ ?_ ?_ ?_
                  · first | omega | assumption | exact Nat.zero_le _
                  · rw [fs_any_s, ← Bool.or_assoc, ← h6]
                    first | rw [h102t, Bool.true_or] | rw [h102f, decide_eq_false (by omega), Bool.or_self] | rw [h102f, decide_eq_true h113f, Bool.false_or]
                  · intro k hk
                    rw [va_up_ne _ _ (by omega)]
                    exact h7 k hk
                  · intro z hz
                    rcases Nat.lt_or_ge z i with w | w
                    · rw [va_up_ne _ _ (by omega)]; exact h8 z w
                    · rw [show z = i by omega, va_up_self]
                  · omega
        refine L70 _ _ _ _ ?_ ?_ ?_ ?_ (Nat.lt_succ_self _)
        · first | omega | assumption | exact Nat.zero_le _
        · exact (Bool.or_false _).symm
        · exact fun _ _ => rfl
        · exact fun z hz => absurd hz (Nat.not_lt_zero z)
      · refine fk_iconst (v := nI 1) d_Md_number_10 (by decide +kernel) ?_
        refine fk_istore_n (lv' := [(0, .ref b0), (1, .int (nI m)), (2, .int (nI 1))]) d_Md_number_11 rfl (Nat.le_of_ble_eq_true rfl) [1, 2, 0] rfl ?_
        refine fk_iconst (v := nI 0) d_Md_number_12 (by decide +kernel) ?_
        refine fk_istore_n (lv' := [(0, .ref b0), (1, .int (nI m)), (2, .int (nI 1)), (3, .int (nI 0))]) d_Md_number_13 rfl (Nat.le_of_ble_eq_true rfl) [1, 2, 3, 0] rfl ?_
        have L14 : ∀ (fuel : Nat) (b : Bool) (i : Nat), (i ≤ 16) → (b = fs_all (fun z => decide (mmk (16 * m + z) = tk z)) i) → 16 - i < fuel → fk_V E (prog_8_method_29_code, fy_Md_number.cls, 4, fk_rm 0 0 0) K (0, 0) [(b0, .inr (6, [.int (nI mt), .ref b1, .ref b2, .ref b3, .ref b4, .ref b5, .ref b6, .ref b7, .ref b8, .ref b9, .int (nI mf), .ref b10, .ref b11, .ref b12, .int (nI my), .int (nI (Bool.toNat mw)), .ref b13, .ref b14, .ref b15])), fk_ai E b12 16 tk, fk_ab E b13 3216 mmk] 14 [(0, .ref b0), (1, .int (nI m)), (2, .int (nI (Bool.toNat b))), (3, .int (nI i))] [] := by
          intro fuel
          induction fuel with
          | zero => intro b i _ _ hm; exact absurd hm (Nat.not_lt_zero _)
          | succ fuel ih =>
            intro b i h3 h4 hm14
            have ih14 := ih
            clear ih
            refine fk_iload_n 3 d_Md_number_14 rfl ?_
            refine fk_bipush (v := nI 16) d_Md_number_15 (by decide +kernel) ?_
            refine fk_icmp_ge (a := i) (b := 16) (by omega) (by omega) d_Md_number_17 rfl (fun h17t => ?_) (fun h17f => ?_)
            · have g3 : b = decide (s m = y) := by rw [h4, show i = 16 by omega]; exact fr_M_eq hM (by omega) hT (hs m (by omega)) hy
              refine fk_iload_n 2 d_Md_number_56 rfl ?_
              refine fk_if_eqB (b := b) d_Md_number_57 rfl (fun h57t => ?_) (fun h57f => ?_)
              · have g4 := g3.symm.trans h57t
                refine fk_iinc (j := 1) (lv' := [(0, .ref b0), (1, .int (nI (m + 1))), (2, .int (nI (Bool.toNat b))), (3, .int (nI i))]) (m + 1) d_Md_number_62 rfl (nI_1 m) (Nat.le_of_ble_eq_true rfl) [1, 0, 2, 3] rfl ?_
                refine fk_goto d_Md_number_65 rfl ?_
                refine fk_lv (lv' := [(0, .ref b0), (1, .int (nI (m + 1)))]) [0, 1] rfl ?_
                refine ih2 _ ?_ ?_ ?_
                · first | omega | assumption | exact Nat.zero_le _
                · intro i hi
                  rcases Nat.lt_or_ge i m with w | w
                  · exact h2 i w
                  · rw [show i = m by omega]; exact of_decide_eq_false g4
                · omega
              · have g4 := of_decide_eq_true (g3.symm.trans h57f)
                refine fk_iload_n 1 d_Md_number_60 rfl ?_
                refine fk_top (congrArg nI (show m = fe_find s y my from (fe_find_fst h2 (by omega) g4).symm)) ?_
                have hpp : fr_nu my mw mmk s y my mw mmk := ⟨fun _ => ⟨rfl, rfl, rfl⟩, fun q => absurd g4 (fe_find_no q m (by omega))⟩
                exact hret (0, 0) _ 61 _ (my, mw, mmk) d_Md_number_61 (hpp) (rfl)
            · have g1 := fr_T_lt hT (show i < 16 by omega)
              have g2 : mmk (16 * m + i) < 16 := by rw [hM m (by omega) i (by omega)]; exact fm_dg_lt _ _
              refine fk_iload_n 2 d_Md_number_20 rfl ?_
              refine fk_if_eqB (b := b) d_Md_number_21 rfl (fun h21t => ?_) (fun h21f => ?_)
              · refine fk_iconst (v := nI 0) d_Md_number_48 (by decide +kernel) ?_
                refine fk_istore_n (lv' := [(0, .ref b0), (1, .int (nI m)), (2, .int (nI 0)), (3, .int (nI i))]) d_Md_number_49 rfl (Nat.le_of_ble_eq_true rfl) [1, 2, 0, 3] rfl ?_
                refine fk_iinc (j := 3) (lv' := [(0, .ref b0), (1, .int (nI m)), (2, .int (nI 0)), (3, .int (nI (i + 1)))]) (i + 1) d_Md_number_50 rfl (nI_1 i) (Nat.le_of_ble_eq_true rfl) [1, 2, 3, 0] rfl ?_
                refine fk_goto d_Md_number_53 rfl ?_
                refine ih14 false _ ?_ ?_ ?_
                · first | omega | assumption | exact Nat.zero_le _
                · rw [fs_all_s, ← h4]
                  first | rw [h21t, Bool.false_and] | rw [h21f, decide_eq_true h41f, Bool.and_self] | rw [h21f, decide_eq_false h41t, Bool.and_false]
                · omega
              · refine fk_aload_n 0 d_Md_number_24 rfl ?_
                refine fk_get 0 16 rfl rfl fh_Md (Nat.le_of_ble_eq_true rfl) fw_523 rfl d_Md_number_25 ?_
                refine fk_bipush (v := nI 16) d_Md_number_28 (by decide +kernel) ?_
                refine fk_iload_n 1 d_Md_number_30 rfl ?_
                refine fk_imul (a := 16) (b := m) d_Md_number_31 ?_
                refine fk_iload_n 3 d_Md_number_32 rfl ?_
                refine fk_iadd (a := (16 * m)) (b := i) d_Md_number_33 ?_
                refine fk_ld_ab (i := ((16 * m) + i)) 2 rfl (by omega) (by decide) d_Md_number_34 ?_
                refine fk_aload_n 0 d_Md_number_35 rfl ?_
                refine fk_get 0 13 rfl rfl fh_Md (Nat.le_of_ble_eq_true rfl) fw_520 rfl d_Md_number_36 ?_
                refine fk_iload_n 3 d_Md_number_39 rfl ?_
                refine fk_ld_ai (i := i) 1 rfl (by omega) (by decide) d_Md_number_40 ?_
                refine fk_icmp_ne (a := (mmk ((16 * m) + i))) (b := (tk i)) (by omega) (by omega) d_Md_number_41 rfl (fun h41t => ?_) (fun h41f => ?_)
                · refine fk_iconst (v := nI 0) d_Md_number_48 (by decide +kernel) ?_
                  refine fk_istore_n (lv' := [(0, .ref b0), (1, .int (nI m)), (2, .int (nI 0)), (3, .int (nI i))]) d_Md_number_49 rfl (Nat.le_of_ble_eq_true rfl) [1, 2, 0, 3] rfl ?_
                  refine fk_iinc (j := 3) (lv' := [(0, .ref b0), (1, .int (nI m)), (2, .int (nI 0)), (3, .int (nI (i + 1)))]) (i + 1) d_Md_number_50 rfl (nI_1 i) (Nat.le_of_ble_eq_true rfl) [1, 2, 3, 0] rfl ?_
                  refine fk_goto d_Md_number_53 rfl ?_
                  refine ih14 false _ ?_ ?_ ?_
                  · first | omega | assumption | exact Nat.zero_le _
                  · rw [fs_all_s, ← h4]
                    first | rw [h21t, Bool.false_and] | rw [h21f, decide_eq_true h41f, Bool.and_self] | rw [h21f, decide_eq_false h41t, Bool.and_false]
                  · omega
                · refine fk_iconst (v := nI 1) d_Md_number_44 (by decide +kernel) ?_
                  refine fk_goto d_Md_number_45 rfl ?_
                  refine fk_istore_n (lv' := [(0, .ref b0), (1, .int (nI m)), (2, .int (nI 1)), (3, .int (nI i))]) d_Md_number_49 rfl (Nat.le_of_ble_eq_true rfl) [1, 2, 0, 3] rfl ?_
                  refine fk_iinc (j := 3) (lv' := [(0, .ref b0), (1, .int (nI m)), (2, .int (nI 1)), (3, .int (nI (i + 1)))]) (i + 1) d_Md_number_50 rfl (nI_1 i) (Nat.le_of_ble_eq_true rfl) [1, 2, 3, 0] rfl ?_
                  refine fk_goto d_Md_number_53 rfl ?_
                  refine ih14 true _ ?_ ?_ ?_
                  · first | omega | assumption | exact Nat.zero_le _
                  · rw [fs_all_s, ← h4]
                    first | rw [h21t, Bool.false_and] | rw [h21f, decide_eq_true h41f, Bool.and_self] | rw [h21f, decide_eq_false h41t, Bool.and_false]
                  · omega
        refine L14 _ true _ ?_ ?_ (Nat.lt_succ_self _)
        · first | omega | assumption | exact Nat.zero_le _
        · rfl
  refine L2 _ _ ?_ ?_ (Nat.lt_succ_self _)
  · first | omega | assumption | exact Nat.zero_le _
  · exact fun i hi => absurd hi (Nat.not_lt_zero i)
