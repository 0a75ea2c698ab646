theorem d_Md_explore_0 : decode prog_8_method_30_code 0 = .ok (.aload_n 0, 1) := by decide +kernel
theorem d_Md_explore_1 : decode prog_8_method_30_code 1 = .ok (.iconst 0, 1) := by decide +kernel
theorem d_Md_explore_2 : decode prog_8_method_30_code 2 = .ok (.putfield 111, 3) := by decide +kernel
theorem d_Md_explore_5 : decode prog_8_method_30_code 5 = .ok (.aload_n 0, 1) := by decide +kernel
theorem d_Md_explore_6 : decode prog_8_method_30_code 6 = .ok (.iconst 0, 1) := by decide +kernel
theorem d_Md_explore_7 : decode prog_8_method_30_code 7 = .ok (.putfield 114, 3) := by decide +kernel
theorem d_Md_explore_10 : decode prog_8_method_30_code 10 = .ok (.aload_n 0, 1) := by decide +kernel
theorem d_Md_explore_11 : decode prog_8_method_30_code 11 = .ok (.invokevirtual 97, 3) := by decide +kernel
theorem d_Md_explore_14 : decode prog_8_method_30_code 14 = .ok (.aload_n 0, 1) := by decide +kernel
theorem d_Md_explore_15 : decode prog_8_method_30_code 15 = .ok (.invokevirtual 118, 3) := by decide +kernel
theorem d_Md_explore_18 : decode prog_8_method_30_code 18 = .ok (.pop, 1) := by decide +kernel
theorem d_Md_explore_19 : decode prog_8_method_30_code 19 = .ok (.iconst 0, 1) := by decide +kernel
theorem d_Md_explore_20 : decode prog_8_method_30_code 20 = .ok (.istore_n 2, 1) := by decide +kernel
theorem d_Md_explore_21 : decode prog_8_method_30_code 21 = .ok (.iload_n 2, 1) := by decide +kernel
theorem d_Md_explore_22 : decode prog_8_method_30_code 22 = .ok (.aload_n 0, 1) := by decide +kernel
theorem d_Md_explore_23 : decode prog_8_method_30_code 23 = .ok (.getfield 111, 3) := by decide +kernel
theorem d_Md_explore_26 : decode prog_8_method_30_code 26 = .ok (.if_icmp .ge 111, 3) := by decide +kernel
theorem d_Md_explore_29 : decode prog_8_method_30_code 29 = .ok (.aload_n 0, 1) := by decide +kernel
theorem d_Md_explore_30 : decode prog_8_method_30_code 30 = .ok (.getfield 114, 3) := by decide +kernel
theorem d_Md_explore_33 : decode prog_8_method_30_code 33 = .ok (.ifCond .ne 104, 3) := by decide +kernel
theorem d_Md_explore_36 : decode prog_8_method_30_code 36 = .ok (.iconst 0, 1) := by decide +kernel
theorem d_Md_explore_37 : decode prog_8_method_30_code 37 = .ok (.istore_n 3, 1) := by decide +kernel
theorem d_Md_explore_38 : decode prog_8_method_30_code 38 = .ok (.iload_n 3, 1) := by decide +kernel
theorem d_Md_explore_39 : decode prog_8_method_30_code 39 = .ok (.bipush 7, 2) := by decide +kernel
theorem d_Md_explore_41 : decode prog_8_method_30_code 41 = .ok (.if_icmp .ge 90, 3) := by decide +kernel
theorem d_Md_explore_44 : decode prog_8_method_30_code 44 = .ok (.aload_n 0, 1) := by decide +kernel
theorem d_Md_explore_45 : decode prog_8_method_30_code 45 = .ok (.getfield 114, 3) := by decide +kernel
theorem d_Md_explore_48 : decode prog_8_method_30_code 48 = .ok (.ifCond .ne 83, 3) := by decide +kernel
theorem d_Md_explore_51 : decode prog_8_method_30_code 51 = .ok (.aload_n 0, 1) := by decide +kernel
theorem d_Md_explore_52 : decode prog_8_method_30_code 52 = .ok (.iload_n 2, 1) := by decide +kernel
theorem d_Md_explore_53 : decode prog_8_method_30_code 53 = .ok (.invokevirtual 122, 3) := by decide +kernel
theorem d_Md_explore_56 : decode prog_8_method_30_code 56 = .ok (.aload_n 0, 1) := by decide +kernel
theorem d_Md_explore_57 : decode prog_8_method_30_code 57 = .ok (.getfield 50, 3) := by decide +kernel
theorem d_Md_explore_60 : decode prog_8_method_30_code 60 = .ok (.bipush 7, 2) := by decide +kernel
theorem d_Md_explore_62 : decode prog_8_method_30_code 62 = .ok (.iload_n 2, 1) := by decide +kernel
theorem d_Md_explore_63 : decode prog_8_method_30_code 63 = .ok (.imul, 1) := by decide +kernel
theorem d_Md_explore_64 : decode prog_8_method_30_code 64 = .ok (.iload_n 3, 1) := by decide +kernel
theorem d_Md_explore_65 : decode prog_8_method_30_code 65 = .ok (.iadd, 1) := by decide +kernel
theorem d_Md_explore_66 : decode prog_8_method_30_code 66 = .ok (.iconst (-1), 1) := by decide +kernel
theorem d_Md_explore_67 : decode prog_8_method_30_code 67 = .ok (.sastore, 1) := by decide +kernel
theorem d_Md_explore_68 : decode prog_8_method_30_code 68 = .ok (.aload_n 0, 1) := by decide +kernel
theorem d_Md_explore_69 : decode prog_8_method_30_code 69 = .ok (.iload_n 1, 1) := by decide +kernel
theorem d_Md_explore_70 : decode prog_8_method_30_code 70 = .ok (.iload_n 3, 1) := by decide +kernel
theorem d_Md_explore_71 : decode prog_8_method_30_code 71 = .ok (.invokevirtual 100, 3) := by decide +kernel
theorem d_Md_explore_74 : decode prog_8_method_30_code 74 = .ok (.ifCond .eq 51, 3) := by decide +kernel
theorem d_Md_explore_77 : decode prog_8_method_30_code 77 = .ok (.aload_n 0, 1) := by decide +kernel
theorem d_Md_explore_78 : decode prog_8_method_30_code 78 = .ok (.iload_n 1, 1) := by decide +kernel
theorem d_Md_explore_79 : decode prog_8_method_30_code 79 = .ok (.iload_n 3, 1) := by decide +kernel
theorem d_Md_explore_80 : decode prog_8_method_30_code 80 = .ok (.invokevirtual 103, 3) := by decide +kernel
theorem d_Md_explore_83 : decode prog_8_method_30_code 83 = .ok (.aload_n 0, 1) := by decide +kernel
theorem d_Md_explore_84 : decode prog_8_method_30_code 84 = .ok (.getfield 50, 3) := by decide +kernel
theorem d_Md_explore_87 : decode prog_8_method_30_code 87 = .ok (.bipush 7, 2) := by decide +kernel
theorem d_Md_explore_89 : decode prog_8_method_30_code 89 = .ok (.iload_n 2, 1) := by decide +kernel
theorem d_Md_explore_90 : decode prog_8_method_30_code 90 = .ok (.imul, 1) := by decide +kernel
theorem d_Md_explore_91 : decode prog_8_method_30_code 91 = .ok (.iload_n 3, 1) := by decide +kernel
theorem d_Md_explore_92 : decode prog_8_method_30_code 92 = .ok (.iadd, 1) := by decide +kernel
theorem d_Md_explore_93 : decode prog_8_method_30_code 93 = .ok (.aload_n 0, 1) := by decide +kernel
theorem d_Md_explore_94 : decode prog_8_method_30_code 94 = .ok (.invokevirtual 118, 3) := by decide +kernel
theorem d_Md_explore_97 : decode prog_8_method_30_code 97 = .ok (.i2s, 1) := by decide +kernel
theorem d_Md_explore_98 : decode prog_8_method_30_code 98 = .ok (.sastore, 1) := by decide +kernel
theorem d_Md_explore_99 : decode prog_8_method_30_code 99 = .ok (.aload_n 0, 1) := by decide +kernel
theorem d_Md_explore_100 : decode prog_8_method_30_code 100 = .ok (.aload_n 0, 1) := by decide +kernel
theorem d_Md_explore_101 : decode prog_8_method_30_code 101 = .ok (.getfield 114, 3) := by decide +kernel
theorem d_Md_explore_104 : decode prog_8_method_30_code 104 = .ok (.ifCond .ne 13, 3) := by decide +kernel
theorem d_Md_explore_107 : decode prog_8_method_30_code 107 = .ok (.aload_n 0, 1) := by decide +kernel
theorem d_Md_explore_108 : decode prog_8_method_30_code 108 = .ok (.getfield 111, 3) := by decide +kernel
theorem d_Md_explore_111 : decode prog_8_method_30_code 111 = .ok (.sipush 200, 3) := by decide +kernel
theorem d_Md_explore_114 : decode prog_8_method_30_code 114 = .ok (.if_icmp .le 7, 3) := by decide +kernel
theorem d_Md_explore_117 : decode prog_8_method_30_code 117 = .ok (.iconst 1, 1) := by decide +kernel
theorem d_Md_explore_118 : decode prog_8_method_30_code 118 = .ok (.goto 4, 3) := by decide +kernel
theorem d_Md_explore_121 : decode prog_8_method_30_code 121 = .ok (.iconst 0, 1) := by decide +kernel
theorem d_Md_explore_122 : decode prog_8_method_30_code 122 = .ok (.putfield 114, 3) := by decide +kernel
theorem d_Md_explore_125 : decode prog_8_method_30_code 125 = .ok (.iinc 3 1, 3) := by decide +kernel
theorem d_Md_explore_128 : decode prog_8_method_30_code 128 = .ok (.goto (-90), 3) := by decide +kernel
theorem d_Md_explore_131 : decode prog_8_method_30_code 131 = .ok (.iinc 2 1, 3) := by decide +kernel
theorem d_Md_explore_134 : decode prog_8_method_30_code 134 = .ok (.goto (-113), 3) := by decide +kernel
theorem d_Md_explore_137 : decode prog_8_method_30_code 137 = .ok (.return_, 1) := by decide +kernel
set_option maxRecDepth 20000 in
set_option maxHeartbeats 4000000 in
theorem cD_explore (E : fk_E) (b0 : Nat) (b1 : Nat) (b2 : Nat) (b3 : Nat) (b4 : Nat) (b5 : Nat) (b6 : Nat) (b7 : Nat) (b8 : Nat) (b9 : Nat) (b10 : Nat) (b11 : Nat) (b12 : Nat) (b13 : Nat) (b14 : Nat) (b15 : Nat) (mt : Nat) (mf : Nat) (my : Nat) (mw : Bool) (mc : Nat → Nat) (mi : Nat → Nat) (mu : Nat → Nat) (mfi : Nat → Nat) (mla : Nat → Nat) (mac : Nat → Nat) (tk : Nat → Nat) (mmk : Nat → Nat) (mnx : Nat → Nat) (q : Nat) (hN : fr_N mc mi mu mfi mla) (hm1 : mac 1 < 128) (hq : q < 2) : fk_C E fy_Md_explore prog_8_method_30_code 4 none 3 0 0 [.ref b0, .int (nI q)] [(b0, .inr (6, [.int (nI mt), .ref b1, .ref b2, .ref b3, .ref b4, .ref b5, .ref b6, .ref b7, .ref b8, .ref b9, .int (nI mf), .ref b10, .ref b11, .ref b12, .int (nI my), .int (nI (Bool.toNat mw)), .ref b13, .ref b14, .ref b15])), fk_ai E b3 2 mc, fk_ai E b4 28 mi, fk_ai E b5 28 mu, fk_ai E b6 2 mfi, fk_ai E b7 2 mla, fk_ai E b8 2 mac, fk_ai E b12 16 tk, fk_ab E b13 3216 mmk, fk_as E b14 1407 mnx] (S := Nat × Bool × (Nat → Nat) × (Nat → Nat) × (Nat → Nat)) (fun (u : Nat × Bool × (Nat → Nat) × (Nat → Nat) × (Nat → Nat)) => none) (fun (u : Nat × Bool × (Nat → Nat) × (Nat → Nat) × (Nat → Nat)) => fr_F (fr_O mc mu mfi q) (fr_I mc mi mla q) (fr_me mc mi mu mfi mla mac q) u.1 u.2.1 u.2.2.2.1 u.2.2.2.2) (fun (u : Nat × Bool × (Nat → Nat) × (Nat → Nat) × (Nat → Nat)) => [(b0, .inr (6, [.int (nI mt), .ref b1, .ref b2, .ref b3, .ref b4, .ref b5, .ref b6, .ref b7, .ref b8, .ref b9, .int (nI mf), .ref b10, .ref b11, .ref b12, .int (nI u.1), .int (nI (Bool.toNat u.2.1)), .ref b13, .ref b14, .ref b15])), fk_ai E b3 2 mc, fk_ai E b4 28 mi, fk_ai E b5 28 mu, fk_ai E b6 2 mfi, fk_ai E b7 2 mla, fk_ai E b8 2 mac, fk_ai E b12 16 u.2.2.1, fk_ab E b13 3216 u.2.2.2.1, fk_as E b14 1407 u.2.2.2.2]) := by
  refine fk_enterV (by decide) (Nat.le_of_ble_eq_true rfl) (lv0 := [(0, .ref b0), (1, .int (nI q))]) rfl ?_
  intro K hini hret
  refine fk_aload_n 0 d_Md_explore_0 rfl ?_
  refine fk_iconst (v := nI 0) d_Md_explore_1 (by decide +kernel) ?_
  refine fk_put (w' := [(b0, .inr (6, [.int (nI mt), .ref b1, .ref b2, .ref b3, .ref b4, .ref b5, .ref b6, .ref b7, .ref b8, .ref b9, .int (nI mf), .ref b10, .ref b11, .ref b12, .int (nI 0), .int (nI (Bool.toNat mw)), .ref b13, .ref b14, .ref b15])), fk_ai E b3 2 mc, fk_ai E b4 28 mi, fk_ai E b5 28 mu, fk_ai E b6 2 mfi, fk_ai E b7 2 mla, fk_ai E b8 2 mac, fk_ai E b12 16 tk, fk_ab E b13 3216 mmk, fk_as E b14 1407 mnx]) 0 14 fT_Md fT_Md_ok fT_Md_nm rfl rfl fh_Md (Nat.le_of_ble_eq_true rfl) fw_521 rfl (fT_Md_ok 14 (Nat.le_of_ble_eq_true rfl)) rfl rfl (Nat.le_of_ble_eq_true rfl) d_Md_explore_2 rfl ?_
  refine fk_aload_n 0 d_Md_explore_5 rfl ?_
  refine fk_iconst (v := nI 0) d_Md_explore_6 (by decide +kernel) ?_
  refine fk_put (w' := [(b0, .inr (6, [.int (nI mt), .ref b1, .ref b2, .ref b3, .ref b4, .ref b5, .ref b6, .ref b7, .ref b8, .ref b9, .int (nI mf), .ref b10, .ref b11, .ref b12, .int (nI 0), .int (nI (Bool.toNat false)), .ref b13, .ref b14, .ref b15])), fk_ai E b3 2 mc, fk_ai E b4 28 mi, fk_ai E b5 28 mu, fk_ai E b6 2 mfi, fk_ai E b7 2 mla, fk_ai E b8 2 mac, fk_ai E b12 16 tk, fk_ab E b13 3216 mmk, fk_as E b14 1407 mnx]) 0 15 fT_Md fT_Md_ok fT_Md_nm rfl rfl fh_Md (Nat.le_of_ble_eq_true rfl) fw_522 rfl (fT_Md_ok 15 (Nat.le_of_ble_eq_true rfl)) (by first | rfl | decide +kernel) (by first | rfl | decide +kernel) (Nat.le_of_ble_eq_true rfl) d_Md_explore_7 rfl ?_
  refine fk_aload_n 0 d_Md_explore_10 rfl ?_
  refine fk_callV (q0 := 0) (As := []) (rest := []) (is := [0, 7]) (ir := [1, 2, 3, 4, 5, 6, 8, 9]) (ip := [8, 0, 1, 2, 3, 4, 5, 9, 6, 7]) (wc := [(b0, .inr (6, [.int (nI mt), .ref b1, .ref b2, .ref b3, .ref b4, .ref b5, .ref b6, .ref b7, .ref b8, .ref b9, .int (nI mf), .ref b10, .ref b11, .ref b12, .int (nI 0), .int (nI (Bool.toNat false)), .ref b13, .ref b14, .ref b15])), fk_ai E b12 16 tk]) (wr := [fk_ai E b3 2 mc, fk_ai E b4 28 mi, fk_ai E b5 28 mu, fk_ai E b6 2 mfi, fk_ai E b7 2 mla, fk_ai E b8 2 mac, fk_ab E b13 3216 mmk, fk_as E b14 1407 mnx]) (w2 := fun u => [(b0, .inr (6, [.int (nI mt), .ref b1, .ref b2, .ref b3, .ref b4, .ref b5, .ref b6, .ref b7, .ref b8, .ref b9, .int (nI mf), .ref b10, .ref b11, .ref b12, .int (nI 0), .int (nI (Bool.toNat false)), .ref b13, .ref b14, .ref b15])), fk_ai E b3 2 mc, fk_ai E b4 28 mi, fk_ai E b5 28 mu, fk_ai E b6 2 mfi, fk_ai E b7 2 mla, fk_ai E b8 2 mac, fk_ai E b12 16 u, fk_ab E b13 3216 mmk, fk_as E b14 1407 mnx]) (cD_initial E b0 b1 b2 b3 b4 b5 b6 b7 b8 b9 b10 b11 b12 b13 b14 b15 mt mf 0 false tk ) d_Md_explore_11 fz_Md_initial fw_642 rfl rfl fw_644 fw_p19 ⟨Nat.le_of_ble_eq_true rfl, Nat.le_of_ble_eq_true rfl⟩ rfl (Nat.le_of_ble_eq_true rfl) ⟨Nat.zero_le _, Nat.zero_le _⟩ ⟨rfl, rfl, rfl, rfl, by decide, fun _ => rfl, rfl⟩ (fun u hu11 => ?_)
  obtain ⟨tk9_11, rfl⟩ : ∃ z, z = u := ⟨_, rfl⟩
  have hq11 : fr_T tk9_11 1 := hu11
  show fk_V E _ K (0, 0) [(b0, .inr (6, [.int (nI mt), .ref b1, .ref b2, .ref b3, .ref b4, .ref b5, .ref b6, .ref b7, .ref b8, .ref b9, .int (nI mf), .ref b10, .ref b11, .ref b12, .int (nI 0), .int (nI (Bool.toNat false)), .ref b13, .ref b14, .ref b15])), fk_ai E b3 2 mc, fk_ai E b4 28 mi, fk_ai E b5 28 mu, fk_ai E b6 2 mfi, fk_ai E b7 2 mla, fk_ai E b8 2 mac, fk_ai E b12 16 tk9_11, fk_ab E b13 3216 mmk, fk_as E b14 1407 mnx] 14 [(0, .ref b0), (1, .int (nI q))] []
  refine fk_aload_n 0 d_Md_explore_14 rfl ?_
  refine fk_callV (q0 := 0) (As := []) (rest := []) (is := [0, 7, 8]) (ir := [1, 2, 3, 4, 5, 6, 9]) (ip := [7, 0, 1, 2, 3, 4, 5, 8, 9, 6]) (wc := [(b0, .inr (6, [.int (nI mt), .ref b1, .ref b2, .ref b3, .ref b4, .ref b5, .ref b6, .ref b7, .ref b8, .ref b9, .int (nI mf), .ref b10, .ref b11, .ref b12, .int (nI 0), .int (nI (Bool.toNat false)), .ref b13, .ref b14, .ref b15])), fk_ai E b12 16 tk9_11, fk_ab E b13 3216 mmk]) (wr := [fk_ai E b3 2 mc, fk_ai E b4 28 mi, fk_ai E b5 28 mu, fk_ai E b6 2 mfi, fk_ai E b7 2 mla, fk_ai E b8 2 mac, fk_as E b14 1407 mnx]) (w2 := fun u => [(b0, .inr (6, [.int (nI mt), .ref b1, .ref b2, .ref b3, .ref b4, .ref b5, .ref b6, .ref b7, .ref b8, .ref b9, .int (nI mf), .ref b10, .ref b11, .ref b12, .int (nI u.1), .int (nI (Bool.toNat u.2.1)), .ref b13, .ref b14, .ref b15])), fk_ai E b3 2 mc, fk_ai E b4 28 mi, fk_ai E b5 28 mu, fk_ai E b6 2 mfi, fk_ai E b7 2 mla, fk_ai E b8 2 mac, fk_ai E b12 16 tk9_11, fk_ab E b13 3216 u.2.2, fk_as E b14 1407 mnx]) (cD_number E b0 b1 b2 b3 b4 b5 b6 b7 b8 b9 b10 b11 b12 b13 b14 b15 mt mf 0 false tk9_11 mmk (fun _ => 0) 1 (by first | omega | assumption) (fun m hm => absurd hm (Nat.not_lt_zero m)) (fun m hm => absurd hm (Nat.not_lt_zero m)) hq11 (by decide)) d_Md_explore_15 fz_Md_number fw_678 rfl rfl fw_680 fw_p27 ⟨Nat.le_of_ble_eq_true rfl, Nat.le_of_ble_eq_true rfl⟩ rfl (Nat.le_of_ble_eq_true rfl) ⟨Nat.zero_le _, Nat.zero_le _⟩ ⟨rfl, rfl, rfl, rfl, by decide, fun _ => rfl, rfl⟩ (fun u hu15 => ?_)
  obtain ⟨my9_15, mw9_15, mk9_15⟩ := u
  have hq15 : fr_nu 0 false mmk (fun _ => 0) 1 my9_15 mw9_15 mk9_15 := hu15
  show fk_V E _ K (0, 0) [(b0, .inr (6, [.int (nI mt), .ref b1, .ref b2, .ref b3, .ref b4, .ref b5, .ref b6, .ref b7, .ref b8, .ref b9, .int (nI mf), .ref b10, .ref b11, .ref b12, .int (nI my9_15), .int (nI (Bool.toNat mw9_15)), .ref b13, .ref b14, .ref b15])), fk_ai E b3 2 mc, fk_ai E b4 28 mi, fk_ai E b5 28 mu, fk_ai E b6 2 mfi, fk_ai E b7 2 mla, fk_ai E b8 2 mac, fk_ai E b12 16 tk9_11, fk_ab E b13 3216 mk9_15, fk_as E b14 1407 mnx] 18 [(0, .ref b0), (1, .int (nI q))] [.int (nI (fe_find (fun _ => 0) 1 0))]
  obtain ⟨e1, e2, e3⟩ := hq15.2 (Nat.not_lt_zero _)
  have e4 : mw9_15 = false := by rw [e2]; decide +kernel
  have g0 : fr_Z (fr_O mc mu mfi q) (fr_I mc mi mla q) (fr_me mc mi mu mfi mla mac q) (7 * 0) (0) my9_15 mw9_15 mk9_15 mnx := by rw [e1, e4]; exact fr_Z_0 e3
  refine fk_pop d_Md_explore_18 rfl ?_
  refine fk_iconst (v := nI 0) d_Md_explore_19 (by decide +kernel) ?_
  refine fk_istore_n (lv' := [(0, .ref b0), (1, .int (nI q)), (2, .int (nI 0))]) d_Md_explore_20 rfl (Nat.le_of_ble_eq_true rfl) [1, 2, 0] rfl ?_
  have L21 : ∀ (fuel : Nat) (m : Nat) (c1 : Nat) (w1 : Bool) (t1 : Nat → Nat) (k1 : Nat → Nat) (x1 : Nat → Nat), (c1 ≤ 201) → (m ≤ 200) → (fr_Z (fr_O mc mu mfi q) (fr_I mc mi mla q) (fr_me mc mi mu mfi mla mac q) (7 * m) (m) c1 w1 k1 x1) → 201 - m < fuel → fk_V E (prog_8_method_30_code, fy_Md_explore.cls, 4, fk_rm 3 0 0) K (0, 0) [(b0, .inr (6, [.int (nI mt), .ref b1, .ref b2, .ref b3, .ref b4, .ref b5, .ref b6, .ref b7, .ref b8, .ref b9, .int (nI mf), .ref b10, .ref b11, .ref b12, .int (nI c1), .int (nI (Bool.toNat w1)), .ref b13, .ref b14, .ref b15])), fk_ai E b3 2 mc, fk_ai E b4 28 mi, fk_ai E b5 28 mu, fk_ai E b6 2 mfi, fk_ai E b7 2 mla, fk_ai E b8 2 mac, fk_ai E b12 16 t1, fk_ab E b13 3216 k1, fk_as E b14 1407 x1] 21 [(0, .ref b0), (1, .int (nI q)), (2, .int (nI m))] [] := by
    intro fuel
    induction fuel with
    | zero => intro m c1 w1 t1 k1 x1 _ _ _ hm; exact absurd hm (Nat.not_lt_zero _)
    | succ fuel ih =>
      intro m c1 w1 t1 k1 x1 h0 h0m h1 hm21
      have ih21 := ih
      clear ih
      refine fk_iload_n 2 d_Md_explore_21 rfl ?_
      refine fk_aload_n 0 d_Md_explore_22 rfl ?_
      refine fk_get 0 14 rfl rfl fh_Md (Nat.le_of_ble_eq_true rfl) fw_521 rfl d_Md_explore_23 ?_
      refine fk_icmp_ge (a := m) (b := c1) (by omega) (by omega) d_Md_explore_26 rfl (fun h26t => ?_) (fun h26f => ?_)
      · have hpp : fr_F (fr_O mc mu mfi q) (fr_I mc mi mla q) (fr_me mc mi mu mfi mla mac q) c1 w1 k1 x1 := by first | exact fr_F_of h1 (Or.inr h26t) | exact fr_F_of h1 (Or.inl h33t)
        exact hret (0, 0) _ 137 _ (c1, w1, t1, k1, x1) d_Md_explore_137 (hpp) (rfl)
      · refine fk_aload_n 0 d_Md_explore_29 rfl ?_
        refine fk_get 0 15 rfl rfl fh_Md (Nat.le_of_ble_eq_true rfl) fw_522 rfl d_Md_explore_30 ?_
        refine fk_if_neB (b := w1) d_Md_explore_33 rfl (fun h33t => ?_) (fun h33f => ?_)
        · have hpp : fr_F (fr_O mc mu mfi q) (fr_I mc mi mla q) (fr_me mc mi mu mfi mla mac q) c1 w1 k1 x1 := by first | exact fr_F_of h1 (Or.inr h26t) | exact fr_F_of h1 (Or.inl h33t)
          exact hret (0, 0) _ 137 _ (c1, w1, t1, k1, x1) d_Md_explore_137 (hpp) (rfl)
        · have g9 : c1 ≤ 200 := by
            obtain ⟨_, _, q, _, _⟩ := h1.2 h33f
            exact q.1
          refine fk_iconst (v := nI 0) d_Md_explore_36 (by decide +kernel) ?_
          refine fk_istore_n (lv' := [(0, .ref b0), (1, .int (nI q)), (2, .int (nI m)), (3, .int (nI 0))]) d_Md_explore_37 rfl (Nat.le_of_ble_eq_true rfl) [1, 2, 3, 0] rfl ?_
          have L38 : ∀ (fuel : Nat) (a : Nat) (c2 : Nat) (w2 : Bool) (t2 : Nat → Nat) (k2 : Nat → Nat) (x2 : Nat → Nat), (a ≤ 7) → (c2 ≤ 201) → (fr_Z (fr_O mc mu mfi q) (fr_I mc mi mla q) (fr_me mc mi mu mfi mla mac q) (7 * m + a) (m + 1) c2 w2 k2 x2) → 7 - a < fuel → fk_V E (prog_8_method_30_code, fy_Md_explore.cls, 4, fk_rm 3 0 0) K (0, 0) [(b0, .inr (6, [.int (nI mt), .ref b1, .ref b2, .ref b3, .ref b4, .ref b5, .ref b6, .ref b7, .ref b8, .ref b9, .int (nI mf), .ref b10, .ref b11, .ref b12, .int (nI c2), .int (nI (Bool.toNat w2)), .ref b13, .ref b14, .ref b15])), fk_ai E b3 2 mc, fk_ai E b4 28 mi, fk_ai E b5 28 mu, fk_ai E b6 2 mfi, fk_ai E b7 2 mla, fk_ai E b8 2 mac, fk_ai E b12 16 t2, fk_ab E b13 3216 k2, fk_as E b14 1407 x2] 38 [(0, .ref b0), (1, .int (nI q)), (2, .int (nI m)), (3, .int (nI a))] [] := by
            intro fuel
            induction fuel with
            | zero => intro a c2 w2 t2 k2 x2 _ _ _ hm; exact absurd hm (Nat.not_lt_zero _)
            | succ fuel ih =>
              intro a c2 w2 t2 k2 x2 h2 h2c h3 hm38
              have ih38 := ih
              clear ih
              refine fk_iload_n 3 d_Md_explore_38 rfl ?_
              refine fk_bipush (v := nI 7) d_Md_explore_39 (by decide +kernel) ?_
              refine fk_icmp_ge (a := a) (b := 7) (by omega) (by omega) d_Md_explore_41 rfl (fun h41t => ?_) (fun h41f => ?_)
              · refine fk_iinc (j := 2) (lv' := [(0, .ref b0), (1, .int (nI q)), (2, .int (nI (m + 1))), (3, .int (nI a))]) (m + 1) d_Md_explore_131 rfl (nI_1 m) (Nat.le_of_ble_eq_true rfl) [1, 2, 0, 3] rfl ?_
                refine fk_goto d_Md_explore_134 rfl ?_
                refine fk_lv (lv' := [(0, .ref b0), (1, .int (nI q)), (2, .int (nI (m + 1)))]) [0, 1, 2] rfl ?_
                refine ih21 _ _ _ _ _ _ ?_ ?_ ?_ ?_
                · first | omega | assumption | exact Nat.zero_le _
                · omega
                · first | exact fr_Z_out h3 (Or.inl (by omega)) | exact fr_Z_out h3 (Or.inr h48t)
                · omega
              · refine fk_aload_n 0 d_Md_explore_44 rfl ?_
                refine fk_get 0 15 rfl rfl fh_Md (Nat.le_of_ble_eq_true rfl) fw_522 rfl d_Md_explore_45 ?_
                refine fk_if_neB (b := w2) d_Md_explore_48 rfl (fun h48t => ?_) (fun h48f => ?_)
                · refine fk_iinc (j := 2) (lv' := [(0, .ref b0), (1, .int (nI q)), (2, .int (nI (m + 1))), (3, .int (nI a))]) (m + 1) d_Md_explore_131 rfl (nI_1 m) (Nat.le_of_ble_eq_true rfl) [1, 2, 0, 3] rfl ?_
                  refine fk_goto d_Md_explore_134 rfl ?_
                  refine fk_lv (lv' := [(0, .ref b0), (1, .int (nI q)), (2, .int (nI (m + 1)))]) [0, 1, 2] rfl ?_
                  refine ih21 _ _ _ _ _ _ ?_ ?_ ?_ ?_
                  · first | omega | assumption | exact Nat.zero_le _
                  · omega
                  · first | exact fr_Z_out h3 (Or.inl (by omega)) | exact fr_Z_out h3 (Or.inr h48t)
                  · omega
                · have e6 : w2 = false := h48f
                  obtain ⟨s2, hR2, hV2, hM2, hm2⟩ := h3.2 h48f
                  have hc2 := hV2.1
                  refine fk_aload_n 0 d_Md_explore_51 rfl ?_
                  refine fk_iload_n 2 d_Md_explore_52 rfl ?_
                  refine fk_callV (q0 := 0) (As := [.int (nI m)]) (rest := []) (is := [0, 7, 8]) (ir := [1, 2, 3, 4, 5, 6, 9]) (ip := [7, 0, 1, 2, 3, 4, 5, 8, 9, 6]) (wc := [(b0, .inr (6, [.int (nI mt), .ref b1, .ref b2, .ref b3, .ref b4, .ref b5, .ref b6, .ref b7, .ref b8, .ref b9, .int (nI mf), .ref b10, .ref b11, .ref b12, .int (nI c2), .int (nI (Bool.toNat w2)), .ref b13, .ref b14, .ref b15])), fk_ai E b12 16 t2, fk_ab E b13 3216 k2]) (wr := [fk_ai E b3 2 mc, fk_ai E b4 28 mi, fk_ai E b5 28 mu, fk_ai E b6 2 mfi, fk_ai E b7 2 mla, fk_ai E b8 2 mac, fk_as E b14 1407 x2]) (w2 := fun u => [(b0, .inr (6, [.int (nI mt), .ref b1, .ref b2, .ref b3, .ref b4, .ref b5, .ref b6, .ref b7, .ref b8, .ref b9, .int (nI mf), .ref b10, .ref b11, .ref b12, .int (nI c2), .int (nI (Bool.toNat w2)), .ref b13, .ref b14, .ref b15])), fk_ai E b3 2 mc, fk_ai E b4 28 mi, fk_ai E b5 28 mu, fk_ai E b6 2 mfi, fk_ai E b7 2 mla, fk_ai E b8 2 mac, fk_ai E b12 16 u, fk_ab E b13 3216 k2, fk_as E b14 1407 x2]) (cD_load E b0 b1 b2 b3 b4 b5 b6 b7 b8 b9 b10 b11 b12 b13 b14 b15 mt mf c2 w2 t2 k2 m (by first | omega | assumption)) d_Md_explore_53 fz_Md_load fw_682 rfl rfl fw_684 fw_p28 ⟨Nat.le_of_ble_eq_true rfl, Nat.le_of_ble_eq_true rfl⟩ rfl (Nat.le_of_ble_eq_true rfl) ⟨Nat.zero_le _, Nat.zero_le _⟩ ⟨rfl, rfl, rfl, rfl, by decide, fun _ => rfl, rfl⟩ (fun u hu53 => ?_)
                  obtain ⟨tk9_53, rfl⟩ : ∃ z, z = u := ⟨_, rfl⟩
                  have hq53 : ∀ z, z < 16 → tk9_53 z = k2 (16 * m + z) := hu53
                  show fk_V E _ K (0, 0) [(b0, .inr (6, [.int (nI mt), .ref b1, .ref b2, .ref b3, .ref b4, .ref b5, .ref b6, .ref b7, .ref b8, .ref b9, .int (nI mf), .ref b10, .ref b11, .ref b12, .int (nI c2), .int (nI (Bool.toNat w2)), .ref b13, .ref b14, .ref b15])), fk_ai E b3 2 mc, fk_ai E b4 28 mi, fk_ai E b5 28 mu, fk_ai E b6 2 mfi, fk_ai E b7 2 mla, fk_ai E b8 2 mac, fk_ai E b12 16 tk9_53, fk_ab E b13 3216 k2, fk_as E b14 1407 x2] 56 [(0, .ref b0), (1, .int (nI q)), (2, .int (nI m)), (3, .int (nI a))] []
                  have g3 : fr_T tk9_53 (s2 m) := fun z hz => by rw [hq53 z hz, hM2 m (by omega) z hz]
                  refine fk_aload_n 0 d_Md_explore_56 rfl ?_
                  refine fk_get 0 17 rfl rfl fh_Md (Nat.le_of_ble_eq_true rfl) fw_524 rfl d_Md_explore_57 ?_
                  refine fk_bipush (v := nI 7) d_Md_explore_60 (by decide +kernel) ?_
                  refine fk_iload_n 2 d_Md_explore_62 rfl ?_
                  refine fk_imul (a := 7) (b := m) d_Md_explore_63 ?_
                  refine fk_iload_n 3 d_Md_explore_64 rfl ?_
                  refine fk_iadd (a := (7 * m)) (b := a) d_Md_explore_65 ?_
                  refine fk_iconst (v := nI 0 - 1) d_Md_explore_66 (by decide +kernel) ?_
                  refine fk_st_as (i := ((7 * m) + a)) (x := 0) (w' := [(b0, .inr (6, [.int (nI mt), .ref b1, .ref b2, .ref b3, .ref b4, .ref b5, .ref b6, .ref b7, .ref b8, .ref b9, .int (nI mf), .ref b10, .ref b11, .ref b12, .int (nI c2), .int (nI (Bool.toNat w2)), .ref b13, .ref b14, .ref b15])), fk_ai E b3 2 mc, fk_ai E b4 28 mi, fk_ai E b5 28 mu, fk_ai E b6 2 mfi, fk_ai E b7 2 mla, fk_ai E b8 2 mac, fk_ai E b12 16 tk9_53, fk_ab E b13 3216 k2, fk_as E b14 1407 (va_up x2 ((7 * m) + a) 0)]) 9 rfl (by omega) (by decide) (fn_ns (by decide)) d_Md_explore_67 rfl ?_
                  refine fk_aload_n 0 d_Md_explore_68 rfl ?_
                  refine fk_iload_n 1 d_Md_explore_69 rfl ?_
                  refine fk_iload_n 3 d_Md_explore_70 rfl ?_
                  refine fk_callV (q0 := 0) (As := [.int (nI q), .int (nI a)]) (rest := []) (is := [0, 1, 2, 3, 4, 5, 6, 7]) (ir := [8, 9]) (ip := [2, 3, 4, 5, 6, 7, 8, 9, 0, 1]) (wc := [(b0, .inr (6, [.int (nI mt), .ref b1, .ref b2, .ref b3, .ref b4, .ref b5, .ref b6, .ref b7, .ref b8, .ref b9, .int (nI mf), .ref b10, .ref b11, .ref b12, .int (nI c2), .int (nI (Bool.toNat w2)), .ref b13, .ref b14, .ref b15])), fk_ai E b3 2 mc, fk_ai E b4 28 mi, fk_ai E b5 28 mu, fk_ai E b6 2 mfi, fk_ai E b7 2 mla, fk_ai E b8 2 mac, fk_ai E b12 16 tk9_53]) (wr := [fk_ab E b13 3216 k2, fk_as E b14 1407 (va_up x2 ((7 * m) + a) 0)]) (w2 := fun _ => [(b0, .inr (6, [.int (nI mt), .ref b1, .ref b2, .ref b3, .ref b4, .ref b5, .ref b6, .ref b7, .ref b8, .ref b9, .int (nI mf), .ref b10, .ref b11, .ref b12, .int (nI c2), .int (nI (Bool.toNat w2)), .ref b13, .ref b14, .ref b15])), fk_ai E b3 2 mc, fk_ai E b4 28 mi, fk_ai E b5 28 mu, fk_ai E b6 2 mfi, fk_ai E b7 2 mla, fk_ai E b8 2 mac, fk_ai E b12 16 tk9_53, fk_ab E b13 3216 k2, fk_as E b14 1407 (va_up x2 ((7 * m) + a) 0)]) (cD_enabled E b0 b1 b2 b3 b4 b5 b6 b7 b8 b9 b10 b11 b12 b13 b14 b15 mt mf c2 w2 mc mi mu mfi mla mac tk9_53 q a (s2 m) (by first | omega | assumption) (by first | omega | assumption) (by first | omega | assumption) (by first | omega | assumption) g3) d_Md_explore_71 fz_Md_enabled fw_646 rfl rfl fw_648 fw_p20 ⟨Nat.le_of_ble_eq_true rfl, Nat.le_of_ble_eq_true rfl⟩ rfl (Nat.le_of_ble_eq_true rfl) ⟨Nat.zero_le _, Nat.zero_le _⟩ ⟨rfl, rfl, rfl, rfl, by decide, fun _ => rfl, rfl⟩ (fun u hu71 => ?_)
                  show fk_V E _ K (0, 0) [(b0, .inr (6, [.int (nI mt), .ref b1, .ref b2, .ref b3, .ref b4, .ref b5, .ref b6, .ref b7, .ref b8, .ref b9, .int (nI mf), .ref b10, .ref b11, .ref b12, .int (nI c2), .int (nI (Bool.toNat w2)), .ref b13, .ref b14, .ref b15])), fk_ai E b3 2 mc, fk_ai E b4 28 mi, fk_ai E b5 28 mu, fk_ai E b6 2 mfi, fk_ai E b7 2 mla, fk_ai E b8 2 mac, fk_ai E b12 16 tk9_53, fk_ab E b13 3216 k2, fk_as E b14 1407 (va_up x2 ((7 * m) + a) 0)] 74 [(0, .ref b0), (1, .int (nI q)), (2, .int (nI m)), (3, .int (nI a))] [.int (nI (Bool.toNat (fs_en (fr_O mc mu mfi q) (fr_me mc mi mu mfi mla mac q) (s2 m) a)))]
                  refine fk_if_eqB (b := (fs_en (fr_O mc mu mfi q) (fr_me mc mi mu mfi mla mac q) (s2 m) a)) d_Md_explore_74 rfl (fun h74t => ?_) (fun h74f => ?_)
                  · refine fk_iinc (j := 3) (lv' := [(0, .ref b0), (1, .int (nI q)), (2, .int (nI m)), (3, .int (nI (a + 1)))]) (a + 1) d_Md_explore_125 rfl (nI_1 a) (Nat.le_of_ble_eq_true rfl) [1, 2, 3, 0] rfl ?_
                    refine fk_goto d_Md_explore_128 rfl ?_
                    refine ih38 _ _ _ _ _ _ ?_ ?_ ?_ ?_
                    · first | omega | assumption | exact Nat.zero_le _
                    · first | exact g6 | omega
                    · first | (rw [e6]; exact fr_Z_no h41f hR2 hV2 hM2 hm2 h74t) | exact fr_Z_go h41f hR2 hV2 hM2 hm2 h74f (by rw [← e7]; exact hq94) _ (by rw [h104t]; rfl) | exact fr_Z_go h41f hR2 hV2 hM2 hm2 h74f (by rw [← e7]; exact hq94) _ (by rw [h104f, decide_eq_false (by omega)]; rfl) | exact fr_Z_go h41f hR2 hV2 hM2 hm2 h74f (by rw [← e7]; exact hq94) _ (by rw [h104f, decide_eq_true (by omega)]; rfl)
                    · omega
                  · refine fk_aload_n 0 d_Md_explore_77 rfl ?_
                    refine fk_iload_n 1 d_Md_explore_78 rfl ?_
                    refine fk_iload_n 3 d_Md_explore_79 rfl ?_
                    refine fk_callV (q0 := 0) (As := [.int (nI q), .int (nI a)]) (rest := []) (is := [0, 1, 2, 3, 4, 5, 7]) (ir := [6, 8, 9]) (ip := [3, 4, 5, 6, 7, 8, 0, 9, 1, 2]) (wc := [(b0, .inr (6, [.int (nI mt), .ref b1, .ref b2, .ref b3, .ref b4, .ref b5, .ref b6, .ref b7, .ref b8, .ref b9, .int (nI mf), .ref b10, .ref b11, .ref b12, .int (nI c2), .int (nI (Bool.toNat w2)), .ref b13, .ref b14, .ref b15])), fk_ai E b3 2 mc, fk_ai E b4 28 mi, fk_ai E b5 28 mu, fk_ai E b6 2 mfi, fk_ai E b7 2 mla, fk_ai E b12 16 tk9_53]) (wr := [fk_ai E b8 2 mac, fk_ab E b13 3216 k2, fk_as E b14 1407 (va_up x2 ((7 * m) + a) 0)]) (w2 := fun u => [(b0, .inr (6, [.int (nI mt), .ref b1, .ref b2, .ref b3, .ref b4, .ref b5, .ref b6, .ref b7, .ref b8, .ref b9, .int (nI mf), .ref b10, .ref b11, .ref b12, .int (nI c2), .int (nI (Bool.toNat w2)), .ref b13, .ref b14, .ref b15])), fk_ai E b3 2 mc, fk_ai E b4 28 mi, fk_ai E b5 28 mu, fk_ai E b6 2 mfi, fk_ai E b7 2 mla, fk_ai E b8 2 mac, fk_ai E b12 16 u, fk_ab E b13 3216 k2, fk_as E b14 1407 (va_up x2 ((7 * m) + a) 0)]) (cD_fire E b0 b1 b2 b3 b4 b5 b6 b7 b8 b9 b10 b11 b12 b13 b14 b15 mt mf c2 w2 mc mi mu mfi mla mac tk9_53 q a (s2 m) (by first | omega | assumption) (by first | omega | assumption) (by first | omega | assumption) g3 (fs_en_can h74f)) d_Md_explore_80 fz_Md_fire fw_658 rfl rfl fw_660 fw_p23 ⟨Nat.le_of_ble_eq_true rfl, Nat.le_of_ble_eq_true rfl⟩ rfl (Nat.le_of_ble_eq_true rfl) ⟨Nat.zero_le _, Nat.zero_le _⟩ ⟨rfl, rfl, rfl, rfl, by decide, fun _ => rfl, rfl⟩ (fun u hu80 => ?_)
                    obtain ⟨tk9_80, rfl⟩ : ∃ z, z = u := ⟨_, rfl⟩
                    have hq80 : ∀ z, z < 16 → tk9_80 z = fm_dg (s2 m) (fr_cp z) - Bool.toNat (fs_tak (fr_O mc mu mfi q) a (fr_cp z)) + Bool.toNat (fs_tak (fr_I mc mi mla q) a (fr_cp z)) := hu80
                    show fk_V E _ K (0, 0) [(b0, .inr (6, [.int (nI mt), .ref b1, .ref b2, .ref b3, .ref b4, .ref b5, .ref b6, .ref b7, .ref b8, .ref b9, .int (nI mf), .ref b10, .ref b11, .ref b12, .int (nI c2), .int (nI (Bool.toNat w2)), .ref b13, .ref b14, .ref b15])), fk_ai E b3 2 mc, fk_ai E b4 28 mi, fk_ai E b5 28 mu, fk_ai E b6 2 mfi, fk_ai E b7 2 mla, fk_ai E b8 2 mac, fk_ai E b12 16 tk9_80, fk_ab E b13 3216 k2, fk_as E b14 1407 (va_up x2 ((7 * m) + a) 0)] 83 [(0, .ref b0), (1, .int (nI q)), (2, .int (nI m)), (3, .int (nI a))] []
                    refine fk_aload_n 0 d_Md_explore_83 rfl ?_
                    refine fk_get 0 17 rfl rfl fh_Md (Nat.le_of_ble_eq_true rfl) fw_524 rfl d_Md_explore_84 ?_
                    refine fk_bipush (v := nI 7) d_Md_explore_87 (by decide +kernel) ?_
                    refine fk_iload_n 2 d_Md_explore_89 rfl ?_
                    refine fk_imul (a := 7) (b := m) d_Md_explore_90 ?_
                    refine fk_iload_n 3 d_Md_explore_91 rfl ?_
                    refine fk_iadd (a := (7 * m)) (b := a) d_Md_explore_92 ?_
                    refine fk_aload_n 0 d_Md_explore_93 rfl ?_
                    refine fk_callV (q0 := 0) (As := []) (rest := [.int (nI ((7 * m) + a)), .ref b14]) (is := [0, 7, 8]) (ir := [1, 2, 3, 4, 5, 6, 9]) (ip := [7, 0, 1, 2, 3, 4, 5, 8, 9, 6]) (wc := [(b0, .inr (6, [.int (nI mt), .ref b1, .ref b2, .ref b3, .ref b4, .ref b5, .ref b6, .ref b7, .ref b8, .ref b9, .int (nI mf), .ref b10, .ref b11, .ref b12, .int (nI c2), .int (nI (Bool.toNat w2)), .ref b13, .ref b14, .ref b15])), fk_ai E b12 16 tk9_80, fk_ab E b13 3216 k2]) (wr := [fk_ai E b3 2 mc, fk_ai E b4 28 mi, fk_ai E b5 28 mu, fk_ai E b6 2 mfi, fk_ai E b7 2 mla, fk_ai E b8 2 mac, fk_as E b14 1407 (va_up x2 ((7 * m) + a) 0)]) (w2 := fun u => [(b0, .inr (6, [.int (nI mt), .ref b1, .ref b2, .ref b3, .ref b4, .ref b5, .ref b6, .ref b7, .ref b8, .ref b9, .int (nI mf), .ref b10, .ref b11, .ref b12, .int (nI u.1), .int (nI (Bool.toNat u.2.1)), .ref b13, .ref b14, .ref b15])), fk_ai E b3 2 mc, fk_ai E b4 28 mi, fk_ai E b5 28 mu, fk_ai E b6 2 mfi, fk_ai E b7 2 mla, fk_ai E b8 2 mac, fk_ai E b12 16 tk9_80, fk_ab E b13 3216 u.2.2, fk_as E b14 1407 (va_up x2 ((7 * m) + a) 0)]) (cD_number E b0 b1 b2 b3 b4 b5 b6 b7 b8 b9 b10 b11 b12 b13 b14 b15 mt mf c2 w2 tk9_80 k2 s2 (fs_fire (fr_O mc mu mfi q) (fr_I mc mi mla q) (s2 m) a) (by first | omega | assumption) hM2 (fun i hi => (hV2.2.1 i hi).1) (fr_T_fire8 (hV2.2.1 m (by omega)).2 hq80) ((fe_fire8 (hV2.2.1 m (by omega)).2).2)) d_Md_explore_94 fz_Md_number fw_678 rfl rfl fw_680 fw_p27 ⟨Nat.le_of_ble_eq_true rfl, Nat.le_of_ble_eq_true rfl⟩ rfl (Nat.le_of_ble_eq_true rfl) ⟨Nat.zero_le _, Nat.zero_le _⟩ ⟨rfl, rfl, rfl, rfl, by decide, fun _ => rfl, rfl⟩ (fun u hu94 => ?_)
                    obtain ⟨my9_94, mw9_94, mk9_94⟩ := u
                    have hq94 : fr_nu c2 w2 k2 s2 (fs_fire (fr_O mc mu mfi q) (fr_I mc mi mla q) (s2 m) a) my9_94 mw9_94 mk9_94 := hu94
                    show fk_V E _ K (0, 0) [(b0, .inr (6, [.int (nI mt), .ref b1, .ref b2, .ref b3, .ref b4, .ref b5, .ref b6, .ref b7, .ref b8, .ref b9, .int (nI mf), .ref b10, .ref b11, .ref b12, .int (nI my9_94), .int (nI (Bool.toNat mw9_94)), .ref b13, .ref b14, .ref b15])), fk_ai E b3 2 mc, fk_ai E b4 28 mi, fk_ai E b5 28 mu, fk_ai E b6 2 mfi, fk_ai E b7 2 mla, fk_ai E b8 2 mac, fk_ai E b12 16 tk9_80, fk_ab E b13 3216 mk9_94, fk_as E b14 1407 (va_up x2 ((7 * m) + a) 0)] 97 [(0, .ref b0), (1, .int (nI q)), (2, .int (nI m)), (3, .int (nI a))] [.int (nI (fe_find s2 (fs_fire (fr_O mc mu mfi q) (fr_I mc mi mla q) (s2 m) a) c2)), .int (nI ((7 * m) + a)), .ref b14]
                    have g5 := fe_find_le s2 (fs_fire (fr_O mc mu mfi q) (fr_I mc mi mla q) (s2 m) a) c2
                    have g6 : my9_94 ≤ 201 := by
                      by_cases z : fe_find s2 (fs_fire (fr_O mc mu mfi q) (fr_I mc mi mla q) (s2 m) a) c2 < c2
                      · have := (hq94.1 z).1
                        omega
                      · have := (hq94.2 z).1
                        omega
                    have e7 : w2 = false := h48f
                    refine fk_i2s d_Md_explore_97 (fn_i2s (by omega)) ?_
                    refine fk_top (show nI (fe_find s2 (fs_fire (fr_O mc mu mfi q) (fr_I mc mi mla q) (s2 m) a) c2) = nI (fe_find s2 (fs_fire (fr_O mc mu mfi q) (fr_I mc mi mla q) (s2 m) a) c2 + 1) - 1 from (nI_pred _).symm) ?_
                    refine fk_st_as (i := ((7 * m) + a)) (x := (fe_find s2 (fs_fire (fr_O mc mu mfi q) (fr_I mc mi mla q) (s2 m) a) c2 + 1)) (w' := [(b0, .inr (6, [.int (nI mt), .ref b1, .ref b2, .ref b3, .ref b4, .ref b5, .ref b6, .ref b7, .ref b8, .ref b9, .int (nI mf), .ref b10, .ref b11, .ref b12, .int (nI my9_94), .int (nI (Bool.toNat mw9_94)), .ref b13, .ref b14, .ref b15])), fk_ai E b3 2 mc, fk_ai E b4 28 mi, fk_ai E b5 28 mu, fk_ai E b6 2 mfi, fk_ai E b7 2 mla, fk_ai E b8 2 mac, fk_ai E b12 16 tk9_80, fk_ab E b13 3216 mk9_94, fk_as E b14 1407 (va_up (va_up x2 ((7 * m) + a) 0) ((7 * m) + a) (fe_find s2 (fs_fire (fr_O mc mu mfi q) (fr_I mc mi mla q) (s2 m) a) c2 + 1))]) 9 rfl (by omega) (by decide) (fn_ns (by omega)) d_Md_explore_98 rfl ?_
                    refine fk_aload_n 0 d_Md_explore_99 rfl ?_
                    refine fk_aload_n 0 d_Md_explore_100 rfl ?_
                    refine fk_get 0 15 rfl rfl fh_Md (Nat.le_of_ble_eq_true rfl) fw_522 rfl d_Md_explore_101 ?_
                    refine fk_if_neB (b := mw9_94) d_Md_explore_104 rfl (fun h104t => ?_) (fun h104f => ?_)
                    · refine fk_iconst (v := nI 1) d_Md_explore_117 (by decide +kernel) ?_
                      refine fk_goto d_Md_explore_118 rfl ?_
                      refine fk_put (w' := [(b0, .inr (6, [.int (nI mt), .ref b1, .ref b2, .ref b3, .ref b4, .ref b5, .ref b6, .ref b7, .ref b8, .ref b9, .int (nI mf), .ref b10, .ref b11, .ref b12, .int (nI my9_94), .int (nI (Bool.toNat true)), .ref b13, .ref b14, .ref b15])), fk_ai E b3 2 mc, fk_ai E b4 28 mi, fk_ai E b5 28 mu, fk_ai E b6 2 mfi, fk_ai E b7 2 mla, fk_ai E b8 2 mac, fk_ai E b12 16 tk9_80, fk_ab E b13 3216 mk9_94, fk_as E b14 1407 (va_up (va_up x2 ((7 * m) + a) 0) ((7 * m) + a) (fe_find s2 (fs_fire (fr_O mc mu mfi q) (fr_I mc mi mla q) (s2 m) a) c2 + 1))]) 0 15 fT_Md fT_Md_ok fT_Md_nm rfl rfl fh_Md (Nat.le_of_ble_eq_true rfl) fw_522 rfl (fT_Md_ok 15 (Nat.le_of_ble_eq_true rfl)) (by first | rfl | decide +kernel) (by first | rfl | decide +kernel) (Nat.le_of_ble_eq_true rfl) d_Md_explore_122 rfl ?_
                      refine fk_iinc (j := 3) (lv' := [(0, .ref b0), (1, .int (nI q)), (2, .int (nI m)), (3, .int (nI (a + 1)))]) (a + 1) d_Md_explore_125 rfl (nI_1 a) (Nat.le_of_ble_eq_true rfl) [1, 2, 3, 0] rfl ?_
                      refine fk_goto d_Md_explore_128 rfl ?_
                      refine ih38 _ _ _ _ _ _ ?_ ?_ ?_ ?_
                      · first | omega | assumption | exact Nat.zero_le _
                      · first | exact g6 | omega
                      · first | (rw [e6]; exact fr_Z_no h41f hR2 hV2 hM2 hm2 h74t) | exact fr_Z_go h41f hR2 hV2 hM2 hm2 h74f (by rw [← e7]; exact hq94) _ (by rw [h104t]; rfl) | exact fr_Z_go h41f hR2 hV2 hM2 hm2 h74f (by rw [← e7]; exact hq94) _ (by rw [h104f, decide_eq_false (by omega)]; rfl) | exact fr_Z_go h41f hR2 hV2 hM2 hm2 h74f (by rw [← e7]; exact hq94) _ (by rw [h104f, decide_eq_true (by omega)]; rfl)
                      · omega
                    · refine fk_aload_n 0 d_Md_explore_107 rfl ?_
                      refine fk_get 0 14 rfl rfl fh_Md (Nat.le_of_ble_eq_true rfl) fw_521 rfl d_Md_explore_108 ?_
                      refine fk_sipush (v := nI 200) d_Md_explore_111 (by decide +kernel) ?_
                      refine fk_icmp_le (a := my9_94) (b := 200) (by omega) (by omega) d_Md_explore_114 rfl (fun h114t => ?_) (fun h114f => ?_)
                      · refine fk_iconst (v := nI 0) d_Md_explore_121 (by decide +kernel) ?_
                        refine fk_put (w' := [(b0, .inr (6, [.int (nI mt), .ref b1, .ref b2, .ref b3, .ref b4, .ref b5, .ref b6, .ref b7, .ref b8, .ref b9, .int (nI mf), .ref b10, .ref b11, .ref b12, .int (nI my9_94), .int (nI (Bool.toNat false)), .ref b13, .ref b14, .ref b15])), fk_ai E b3 2 mc, fk_ai E b4 28 mi, fk_ai E b5 28 mu, fk_ai E b6 2 mfi, fk_ai E b7 2 mla, fk_ai E b8 2 mac, fk_ai E b12 16 tk9_80, fk_ab E b13 3216 mk9_94, fk_as E b14 1407 (va_up (va_up x2 ((7 * m) + a) 0) ((7 * m) + a) (fe_find s2 (fs_fire (fr_O mc mu mfi q) (fr_I mc mi mla q) (s2 m) a) c2 + 1))]) 0 15 fT_Md fT_Md_ok fT_Md_nm rfl rfl fh_Md (Nat.le_of_ble_eq_true rfl) fw_522 rfl (fT_Md_ok 15 (Nat.le_of_ble_eq_true rfl)) (by first | rfl | decide +kernel) (by first | rfl | decide +kernel) (Nat.le_of_ble_eq_true rfl) d_Md_explore_122 rfl ?_
                        refine fk_iinc (j := 3) (lv' := [(0, .ref b0), (1, .int (nI q)), (2, .int (nI m)), (3, .int (nI (a + 1)))]) (a + 1) d_Md_explore_125 rfl (nI_1 a) (Nat.le_of_ble_eq_true rfl) [1, 2, 3, 0] rfl ?_
                        refine fk_goto d_Md_explore_128 rfl ?_
                        refine ih38 _ _ _ _ _ _ ?_ ?_ ?_ ?_
                        · first | omega | assumption | exact Nat.zero_le _
                        · first | exact g6 | omega
                        · first | (rw [e6]; exact fr_Z_no h41f hR2 hV2 hM2 hm2 h74t) | exact fr_Z_go h41f hR2 hV2 hM2 hm2 h74f (by rw [← e7]; exact hq94) _ (by rw [h104t]; rfl) | exact fr_Z_go h41f hR2 hV2 hM2 hm2 h74f (by rw [← e7]; exact hq94) _ (by rw [h104f, decide_eq_false (by omega)]; rfl) | exact fr_Z_go h41f hR2 hV2 hM2 hm2 h74f (by rw [← e7]; exact hq94) _ (by rw [h104f, decide_eq_true (by omega)]; rfl)
                        · omega
                      · refine fk_iconst (v := nI 1) d_Md_explore_117 (by decide +kernel) ?_
                        refine fk_goto d_Md_explore_118 rfl ?_
                        refine fk_put (w' := [(b0, .inr (6, [.int (nI mt), .ref b1, .ref b2, .ref b3, .ref b4, .ref b5, .ref b6, .ref b7, .ref b8, .ref b9, .int (nI mf), .ref b10, .ref b11, .ref b12, .int (nI my9_94), .int (nI (Bool.toNat true)), .ref b13, .ref b14, .ref b15])), fk_ai E b3 2 mc, fk_ai E b4 28 mi, fk_ai E b5 28 mu, fk_ai E b6 2 mfi, fk_ai E b7 2 mla, fk_ai E b8 2 mac, fk_ai E b12 16 tk9_80, fk_ab E b13 3216 mk9_94, fk_as E b14 1407 (va_up (va_up x2 ((7 * m) + a) 0) ((7 * m) + a) (fe_find s2 (fs_fire (fr_O mc mu mfi q) (fr_I mc mi mla q) (s2 m) a) c2 + 1))]) 0 15 fT_Md fT_Md_ok fT_Md_nm rfl rfl fh_Md (Nat.le_of_ble_eq_true rfl) fw_522 rfl (fT_Md_ok 15 (Nat.le_of_ble_eq_true rfl)) (by first | rfl | decide +kernel) (by first | rfl | decide +kernel) (Nat.le_of_ble_eq_true rfl) d_Md_explore_122 rfl ?_
                        refine fk_iinc (j := 3) (lv' := [(0, .ref b0), (1, .int (nI q)), (2, .int (nI m)), (3, .int (nI (a + 1)))]) (a + 1) d_Md_explore_125 rfl (nI_1 a) (Nat.le_of_ble_eq_true rfl) [1, 2, 3, 0] rfl ?_
                        refine fk_goto d_Md_explore_128 rfl ?_
                        refine ih38 _ _ _ _ _ _ ?_ ?_ ?_ ?_
                        · first | omega | assumption | exact Nat.zero_le _
                        · first | exact g6 | omega
                        · first | (rw [e6]; exact fr_Z_no h41f hR2 hV2 hM2 hm2 h74t) | exact fr_Z_go h41f hR2 hV2 hM2 hm2 h74f (by rw [← e7]; exact hq94) _ (by rw [h104t]; rfl) | exact fr_Z_go h41f hR2 hV2 hM2 hm2 h74f (by rw [← e7]; exact hq94) _ (by rw [h104f, decide_eq_false (by omega)]; rfl) | exact fr_Z_go h41f hR2 hV2 hM2 hm2 h74f (by rw [← e7]; exact hq94) _ (by rw [h104f, decide_eq_true (by omega)]; rfl)
                        · omega
          refine L38 _ _ _ _ _ _ _ ?_ ?_ ?_ (Nat.lt_succ_self _)
          · first | omega | assumption | exact Nat.zero_le _
          · first | omega | assumption | exact Nat.zero_le _
          · exact fr_Z_in h1 h26f
  refine L21 _ _ _ _ _ _ _ ?_ ?_ ?_ (Nat.lt_succ_self _)
  · omega
  · first | omega | assumption | exact Nat.zero_le _
  · exact g0
theorem d_Md_markings_0 : decode prog_8_method_31_code 0 = .ok (.iload_n 1, 1) := by decide +kernel
theorem d_Md_markings_1 : decode prog_8_method_31_code 1 = .ok (.invokestatic 82, 3) := by decide +kernel
theorem d_Md_markings_4 : decode prog_8_method_31_code 4 = .ok (.ifCond .eq 5, 3) := by decide +kernel
theorem d_Md_markings_7 : decode prog_8_method_31_code 7 = .ok (.iconst (-1), 1) := by decide +kernel
theorem d_Md_markings_8 : decode prog_8_method_31_code 8 = .ok (.ireturn, 1) := by decide +kernel
theorem d_Md_markings_9 : decode prog_8_method_31_code 9 = .ok (.aload_n 0, 1) := by decide +kernel
theorem d_Md_markings_10 : decode prog_8_method_31_code 10 = .ok (.iload_n 1, 1) := by decide +kernel
theorem d_Md_markings_11 : decode prog_8_method_31_code 11 = .ok (.invokevirtual 126, 3) := by decide +kernel
theorem d_Md_markings_14 : decode prog_8_method_31_code 14 = .ok (.aload_n 0, 1) := by decide +kernel
theorem d_Md_markings_15 : decode prog_8_method_31_code 15 = .ok (.getfield 114, 3) := by decide +kernel
theorem d_Md_markings_18 : decode prog_8_method_31_code 18 = .ok (.ifCond .eq 8, 3) := by decide +kernel
theorem d_Md_markings_21 : decode prog_8_method_31_code 21 = .ok (.bipush (-3), 2) := by decide +kernel
theorem d_Md_markings_23 : decode prog_8_method_31_code 23 = .ok (.goto 7, 3) := by decide +kernel
theorem d_Md_markings_26 : decode prog_8_method_31_code 26 = .ok (.aload_n 0, 1) := by decide +kernel
theorem d_Md_markings_27 : decode prog_8_method_31_code 27 = .ok (.getfield 111, 3) := by decide +kernel
theorem d_Md_markings_30 : decode prog_8_method_31_code 30 = .ok (.ireturn, 1) := by decide +kernel
set_option maxRecDepth 20000 in
set_option maxHeartbeats 4000000 in
theorem cD_markingsW (E : fk_E) (b0 : Nat) (b1 : Nat) (b2 : Nat) (b3 : Nat) (b4 : Nat) (b5 : Nat) (b6 : Nat) (b7 : Nat) (b8 : Nat) (b9 : Nat) (b10 : Nat) (b11 : Nat) (b12 : Nat) (b13 : Nat) (b14 : Nat) (b15 : Nat) (mt : Nat) (mf : Nat) (my : Nat) (mw : Bool) (mc : Nat → Nat) (mi : Nat → Nat) (mu : Nat → Nat) (mfi : Nat → Nat) (mla : Nat → Nat) (mac : Nat → Nat) (tk : Nat → Nat) (mmk : Nat → Nat) (mnx : Nat → Nat) (q : Nat) (hN : fr_N mc mi mu mfi mla) (hm1 : mac 1 < 128) (hq : q < 2) (hw : (fe_run (fr_O mc mu mfi q) (fr_I mc mi mla q) (fr_me mc mi mu mfi mla mac q) 1400).2.2.2 = true) : fk_C E fy_Md_markings prog_8_method_31_code 2 (some .int) 4 0 0 [.ref b0, .int (nI q)] [(b0, .inr (6, [.int (nI mt), .ref b1, .ref b2, .ref b3, .ref b4, .ref b5, .ref b6, .ref b7, .ref b8, .ref b9, .int (nI mf), .ref b10, .ref b11, .ref b12, .int (nI my), .int (nI (Bool.toNat mw)), .ref b13, .ref b14, .ref b15])), fk_ai E b3 2 mc, fk_ai E b4 28 mi, fk_ai E b5 28 mu, fk_ai E b6 2 mfi, fk_ai E b7 2 mla, fk_ai E b8 2 mac, fk_ai E b12 16 tk, fk_ab E b13 3216 mmk, fk_as E b14 1407 mnx] (S := Nat × Bool × (Nat → Nat) × (Nat → Nat) × (Nat → Nat)) (fun (u : Nat × Bool × (Nat → Nat) × (Nat → Nat) × (Nat → Nat)) => some (.int (-3))) (fun (u : Nat × Bool × (Nat → Nat) × (Nat → Nat) × (Nat → Nat)) => True) (fun (u : Nat × Bool × (Nat → Nat) × (Nat → Nat) × (Nat → Nat)) => [(b0, .inr (6, [.int (nI mt), .ref b1, .ref b2, .ref b3, .ref b4, .ref b5, .ref b6, .ref b7, .ref b8, .ref b9, .int (nI mf), .ref b10, .ref b11, .ref b12, .int (nI u.1), .int (nI (Bool.toNat u.2.1)), .ref b13, .ref b14, .ref b15])), fk_ai E b3 2 mc, fk_ai E b4 28 mi, fk_ai E b5 28 mu, fk_ai E b6 2 mfi, fk_ai E b7 2 mla, fk_ai E b8 2 mac, fk_ai E b12 16 u.2.2.1, fk_ab E b13 3216 u.2.2.2.1, fk_as E b14 1407 u.2.2.2.2]) := by
  refine fk_enterI (v := fun (u : Nat × Bool × (Nat → Nat) × (Nat → Nat) × (Nat → Nat)) => (-3)) (by decide) (Nat.le_of_ble_eq_true rfl) (lv0 := [(0, .ref b0), (1, .int (nI q))]) rfl ?_
  intro K hini hret
  refine fk_iload_n 1 d_Md_markings_0 rfl ?_
  refine fk_callS (As := [.int (nI q)]) (rest := []) (is := []) (ir := [0, 1, 2, 3, 4, 5, 6, 7, 8, 9]) (ip := [0, 1, 2, 3, 4, 5, 6, 7, 8, 9]) (wc := []) (wr := [(b0, .inr (6, [.int (nI mt), .ref b1, .ref b2, .ref b3, .ref b4, .ref b5, .ref b6, .ref b7, .ref b8, .ref b9, .int (nI mf), .ref b10, .ref b11, .ref b12, .int (nI my), .int (nI (Bool.toNat mw)), .ref b13, .ref b14, .ref b15])), fk_ai E b3 2 mc, fk_ai E b4 28 mi, fk_ai E b5 28 mu, fk_ai E b6 2 mfi, fk_ai E b7 2 mla, fk_ai E b8 2 mac, fk_ai E b12 16 tk, fk_ab E b13 3216 mmk, fk_as E b14 1407 mnx]) (w2 := fun _ => [(b0, .inr (6, [.int (nI mt), .ref b1, .ref b2, .ref b3, .ref b4, .ref b5, .ref b6, .ref b7, .ref b8, .ref b9, .int (nI mf), .ref b10, .ref b11, .ref b12, .int (nI my), .int (nI (Bool.toNat mw)), .ref b13, .ref b14, .ref b15])), fk_ai E b3 2 mc, fk_ai E b4 28 mi, fk_ai E b5 28 mu, fk_ai E b6 2 mfi, fk_ai E b7 2 mla, fk_ai E b8 2 mac, fk_ai E b12 16 tk, fk_ab E b13 3216 mmk, fk_as E b14 1407 mnx]) (cD_notNet E q (by first | omega | assumption)) d_Md_markings_1 fz_Md_notNet fw_627 fw_628 ⟨Nat.le_of_ble_eq_true rfl, Nat.le_of_ble_eq_true rfl⟩ rfl (Nat.le_of_ble_eq_true rfl) ⟨Nat.zero_le _, Nat.zero_le _⟩ ⟨rfl, rfl, rfl, rfl, by decide, fun _ => rfl, rfl⟩ (fun u hu1 => ?_)
  show fk_V E _ K (0, 0) [(b0, .inr (6, [.int (nI mt), .ref b1, .ref b2, .ref b3, .ref b4, .ref b5, .ref b6, .ref b7, .ref b8, .ref b9, .int (nI mf), .ref b10, .ref b11, .ref b12, .int (nI my), .int (nI (Bool.toNat mw)), .ref b13, .ref b14, .ref b15])), fk_ai E b3 2 mc, fk_ai E b4 28 mi, fk_ai E b5 28 mu, fk_ai E b6 2 mfi, fk_ai E b7 2 mla, fk_ai E b8 2 mac, fk_ai E b12 16 tk, fk_ab E b13 3216 mmk, fk_as E b14 1407 mnx] 4 [(0, .ref b0), (1, .int (nI q))] [.int (nI (Bool.toNat (decide (2 ≤ q))))]
  refine fk_if_eqB (b := (decide (2 ≤ q))) d_Md_markings_4 rfl (fun h4t => ?_) (fun h4f => ?_)
  · refine fk_aload_n 0 d_Md_markings_9 rfl ?_
    refine fk_iload_n 1 d_Md_markings_10 rfl ?_
    refine fk_callV (q0 := 0) (As := [.int (nI q)]) (rest := []) (is := [0, 1, 2, 3, 4, 5, 6, 7, 8, 9]) (ir := []) (ip := [0, 1, 2, 3, 4, 5, 6, 7, 8, 9]) (wc := [(b0, .inr (6, [.int (nI mt), .ref b1, .ref b2, .ref b3, .ref b4, .ref b5, .ref b6, .ref b7, .ref b8, .ref b9, .int (nI mf), .ref b10, .ref b11, .ref b12, .int (nI my), .int (nI (Bool.toNat mw)), .ref b13, .ref b14, .ref b15])), fk_ai E b3 2 mc, fk_ai E b4 28 mi, fk_ai E b5 28 mu, fk_ai E b6 2 mfi, fk_ai E b7 2 mla, fk_ai E b8 2 mac, fk_ai E b12 16 tk, fk_ab E b13 3216 mmk, fk_as E b14 1407 mnx]) (wr := []) (w2 := fun u => [(b0, .inr (6, [.int (nI mt), .ref b1, .ref b2, .ref b3, .ref b4, .ref b5, .ref b6, .ref b7, .ref b8, .ref b9, .int (nI mf), .ref b10, .ref b11, .ref b12, .int (nI u.1), .int (nI (Bool.toNat u.2.1)), .ref b13, .ref b14, .ref b15])), fk_ai E b3 2 mc, fk_ai E b4 28 mi, fk_ai E b5 28 mu, fk_ai E b6 2 mfi, fk_ai E b7 2 mla, fk_ai E b8 2 mac, fk_ai E b12 16 u.2.2.1, fk_ab E b13 3216 u.2.2.2.1, fk_as E b14 1407 u.2.2.2.2]) (cD_explore E b0 b1 b2 b3 b4 b5 b6 b7 b8 b9 b10 b11 b12 b13 b14 b15 mt mf my mw mc mi mu mfi mla mac tk mmk mnx q (by first | omega | assumption) (by first | omega | assumption) (by first | omega | assumption)) d_Md_markings_11 fz_Md_explore fw_674 rfl rfl fw_676 fw_p26 ⟨Nat.le_of_ble_eq_true rfl, Nat.le_of_ble_eq_true rfl⟩ rfl (Nat.le_of_ble_eq_true rfl) ⟨Nat.zero_le _, Nat.zero_le _⟩ ⟨rfl, rfl, rfl, rfl, by decide, fun _ => rfl, rfl⟩ (fun u hu11 => ?_)
    obtain ⟨my9_11, mw9_11, tk9_11, mk9_11, nx9_11⟩ := u
    have hq11 : fr_F (fr_O mc mu mfi q) (fr_I mc mi mla q) (fr_me mc mi mu mfi mla mac q) my9_11 mw9_11 mk9_11 nx9_11 := hu11
    show fk_V E _ K (0, 0) [(b0, .inr (6, [.int (nI mt), .ref b1, .ref b2, .ref b3, .ref b4, .ref b5, .ref b6, .ref b7, .ref b8, .ref b9, .int (nI mf), .ref b10, .ref b11, .ref b12, .int (nI my9_11), .int (nI (Bool.toNat mw9_11)), .ref b13, .ref b14, .ref b15])), fk_ai E b3 2 mc, fk_ai E b4 28 mi, fk_ai E b5 28 mu, fk_ai E b6 2 mfi, fk_ai E b7 2 mla, fk_ai E b8 2 mac, fk_ai E b12 16 tk9_11, fk_ab E b13 3216 mk9_11, fk_as E b14 1407 nx9_11] 14 [(0, .ref b0), (1, .int (nI q))] []
    refine fk_aload_n 0 d_Md_markings_14 rfl ?_
    refine fk_get 0 15 rfl rfl fh_Md (Nat.le_of_ble_eq_true rfl) fw_522 rfl d_Md_markings_15 ?_
    refine fk_if_eqB (b := mw9_11) d_Md_markings_18 rfl (fun h18t => ?_) (fun h18f => ?_)
    · have z := (hq11.2 h18t).1
      rw [hw] at z; exact absurd z (by decide)
    · refine fk_bipush (v := -3) d_Md_markings_21 (by decide +kernel) ?_
      refine fk_goto d_Md_markings_23 rfl ?_
      exact hret (0, 0) _ 30 _ (my9_11, mw9_11, tk9_11, mk9_11, nx9_11) d_Md_markings_30 (trivial) (rfl)
  · exact absurd (of_decide_eq_true h4f) (by omega)
set_option maxRecDepth 20000 in
set_option maxHeartbeats 4000000 in
theorem cD_markings (E : fk_E) (b0 : Nat) (b1 : Nat) (b2 : Nat) (b3 : Nat) (b4 : Nat) (b5 : Nat) (b6 : Nat) (b7 : Nat) (b8 : Nat) (b9 : Nat) (b10 : Nat) (b11 : Nat) (b12 : Nat) (b13 : Nat) (b14 : Nat) (b15 : Nat) (mt : Nat) (mf : Nat) (my : Nat) (mw : Bool) (mc : Nat → Nat) (mi : Nat → Nat) (mu : Nat → Nat) (mfi : Nat → Nat) (mla : Nat → Nat) (mac : Nat → Nat) (tk : Nat → Nat) (mmk : Nat → Nat) (mnx : Nat → Nat) (q : Nat) (hN : fr_N mc mi mu mfi mla) (hm1 : mac 1 < 128) (hq : q < 2) (hw : (fe_run (fr_O mc mu mfi q) (fr_I mc mi mla q) (fr_me mc mi mu mfi mla mac q) 1400).2.2.2 = false) : fk_C E fy_Md_markings prog_8_method_31_code 2 (some .int) 4 0 0 [.ref b0, .int (nI q)] [(b0, .inr (6, [.int (nI mt), .ref b1, .ref b2, .ref b3, .ref b4, .ref b5, .ref b6, .ref b7, .ref b8, .ref b9, .int (nI mf), .ref b10, .ref b11, .ref b12, .int (nI my), .int (nI (Bool.toNat mw)), .ref b13, .ref b14, .ref b15])), fk_ai E b3 2 mc, fk_ai E b4 28 mi, fk_ai E b5 28 mu, fk_ai E b6 2 mfi, fk_ai E b7 2 mla, fk_ai E b8 2 mac, fk_ai E b12 16 tk, fk_ab E b13 3216 mmk, fk_as E b14 1407 mnx] (S := Nat × Bool × (Nat → Nat) × (Nat → Nat) × (Nat → Nat)) (fun (u : Nat × Bool × (Nat → Nat) × (Nat → Nat) × (Nat → Nat)) => some (.int (nI ((fe_run (fr_O mc mu mfi q) (fr_I mc mi mla q) (fr_me mc mi mu mfi mla mac q) 1400).1)))) (fun (u : Nat × Bool × (Nat → Nat) × (Nat → Nat) × (Nat → Nat)) => True) (fun (u : Nat × Bool × (Nat → Nat) × (Nat → Nat) × (Nat → Nat)) => [(b0, .inr (6, [.int (nI mt), .ref b1, .ref b2, .ref b3, .ref b4, .ref b5, .ref b6, .ref b7, .ref b8, .ref b9, .int (nI mf), .ref b10, .ref b11, .ref b12, .int (nI u.1), .int (nI (Bool.toNat u.2.1)), .ref b13, .ref b14, .ref b15])), fk_ai E b3 2 mc, fk_ai E b4 28 mi, fk_ai E b5 28 mu, fk_ai E b6 2 mfi, fk_ai E b7 2 mla, fk_ai E b8 2 mac, fk_ai E b12 16 u.2.2.1, fk_ab E b13 3216 u.2.2.2.1, fk_as E b14 1407 u.2.2.2.2]) := by
  refine fk_enterI (v := fun (u : Nat × Bool × (Nat → Nat) × (Nat → Nat) × (Nat → Nat)) => (nI ((fe_run (fr_O mc mu mfi q) (fr_I mc mi mla q) (fr_me mc mi mu mfi mla mac q) 1400).1))) (by decide) (Nat.le_of_ble_eq_true rfl) (lv0 := [(0, .ref b0), (1, .int (nI q))]) rfl ?_
  intro K hini hret
  refine fk_iload_n 1 d_Md_markings_0 rfl ?_
  refine fk_callS (As := [.int (nI q)]) (rest := []) (is := []) (ir := [0, 1, 2, 3, 4, 5, 6, 7, 8, 9]) (ip := [0, 1, 2, 3, 4, 5, 6, 7, 8, 9]) (wc := []) (wr := [(b0, .inr (6, [.int (nI mt), .ref b1, .ref b2, .ref b3, .ref b4, .ref b5, .ref b6, .ref b7, .ref b8, .ref b9, .int (nI mf), .ref b10, .ref b11, .ref b12, .int (nI my), .int (nI (Bool.toNat mw)), .ref b13, .ref b14, .ref b15])), fk_ai E b3 2 mc, fk_ai E b4 28 mi, fk_ai E b5 28 mu, fk_ai E b6 2 mfi, fk_ai E b7 2 mla, fk_ai E b8 2 mac, fk_ai E b12 16 tk, fk_ab E b13 3216 mmk, fk_as E b14 1407 mnx]) (w2 := fun _ => [(b0, .inr (6, [.int (nI mt), .ref b1, .ref b2, .ref b3, .ref b4, .ref b5, .ref b6, .ref b7, .ref b8, .ref b9, .int (nI mf), .ref b10, .ref b11, .ref b12, .int (nI my), .int (nI (Bool.toNat mw)), .ref b13, .ref b14, .ref b15])), fk_ai E b3 2 mc, fk_ai E b4 28 mi, fk_ai E b5 28 mu, fk_ai E b6 2 mfi, fk_ai E b7 2 mla, fk_ai E b8 2 mac, fk_ai E b12 16 tk, fk_ab E b13 3216 mmk, fk_as E b14 1407 mnx]) (cD_notNet E q (by first | omega | assumption)) d_Md_markings_1 fz_Md_notNet fw_627 fw_628 ⟨Nat.le_of_ble_eq_true rfl, Nat.le_of_ble_eq_true rfl⟩ rfl (Nat.le_of_ble_eq_true rfl) ⟨Nat.zero_le _, Nat.zero_le _⟩ ⟨rfl, rfl, rfl, rfl, by decide, fun _ => rfl, rfl⟩ (fun u hu1 => ?_)
  show fk_V E _ K (0, 0) [(b0, .inr (6, [.int (nI mt), .ref b1, .ref b2, .ref b3, .ref b4, .ref b5, .ref b6, .ref b7, .ref b8, .ref b9, .int (nI mf), .ref b10, .ref b11, .ref b12, .int (nI my), .int (nI (Bool.toNat mw)), .ref b13, .ref b14, .ref b15])), fk_ai E b3 2 mc, fk_ai E b4 28 mi, fk_ai E b5 28 mu, fk_ai E b6 2 mfi, fk_ai E b7 2 mla, fk_ai E b8 2 mac, fk_ai E b12 16 tk, fk_ab E b13 3216 mmk, fk_as E b14 1407 mnx] 4 [(0, .ref b0), (1, .int (nI q))] [.int (nI (Bool.toNat (decide (2 ≤ q))))]
  refine fk_if_eqB (b := (decide (2 ≤ q))) d_Md_markings_4 rfl (fun h4t => ?_) (fun h4f => ?_)
  · refine fk_aload_n 0 d_Md_markings_9 rfl ?_
    refine fk_iload_n 1 d_Md_markings_10 rfl ?_
    refine fk_callV (q0 := 0) (As := [.int (nI q)]) (rest := []) (is := [0, 1, 2, 3, 4, 5, 6, 7, 8, 9]) (ir := []) (ip := [0, 1, 2, 3, 4, 5, 6, 7, 8, 9]) (wc := [(b0, .inr (6, [.int (nI mt), .ref b1, .ref b2, .ref b3, .ref b4, .ref b5, .ref b6, .ref b7, .ref b8, .ref b9, .int (nI mf), .ref b10, .ref b11, .ref b12, .int (nI my), .int (nI (Bool.toNat mw)), .ref b13, .ref b14, .ref b15])), fk_ai E b3 2 mc, fk_ai E b4 28 mi, fk_ai E b5 28 mu, fk_ai E b6 2 mfi, fk_ai E b7 2 mla, fk_ai E b8 2 mac, fk_ai E b12 16 tk, fk_ab E b13 3216 mmk, fk_as E b14 1407 mnx]) (wr := []) (w2 := fun u => [(b0, .inr (6, [.int (nI mt), .ref b1, .ref b2, .ref b3, .ref b4, .ref b5, .ref b6, .ref b7, .ref b8, .ref b9, .int (nI mf), .ref b10, .ref b11, .ref b12, .int (nI u.1), .int (nI (Bool.toNat u.2.1)), .ref b13, .ref b14, .ref b15])), fk_ai E b3 2 mc, fk_ai E b4 28 mi, fk_ai E b5 28 mu, fk_ai E b6 2 mfi, fk_ai E b7 2 mla, fk_ai E b8 2 mac, fk_ai E b12 16 u.2.2.1, fk_ab E b13 3216 u.2.2.2.1, fk_as E b14 1407 u.2.2.2.2]) (cD_explore E b0 b1 b2 b3 b4 b5 b6 b7 b8 b9 b10 b11 b12 b13 b14 b15 mt mf my mw mc mi mu mfi mla mac tk mmk mnx q (by first | omega | assumption) (by first | omega | assumption) (by first | omega | assumption)) d_Md_markings_11 fz_Md_explore fw_674 rfl rfl fw_676 fw_p26 ⟨Nat.le_of_ble_eq_true rfl, Nat.le_of_ble_eq_true rfl⟩ rfl (Nat.le_of_ble_eq_true rfl) ⟨Nat.zero_le _, Nat.zero_le _⟩ ⟨rfl, rfl, rfl, rfl, by decide, fun _ => rfl, rfl⟩ (fun u hu11 => ?_)
    obtain ⟨my9_11, mw9_11, tk9_11, mk9_11, nx9_11⟩ := u
    have hq11 : fr_F (fr_O mc mu mfi q) (fr_I mc mi mla q) (fr_me mc mi mu mfi mla mac q) my9_11 mw9_11 mk9_11 nx9_11 := hu11
    show fk_V E _ K (0, 0) [(b0, .inr (6, [.int (nI mt), .ref b1, .ref b2, .ref b3, .ref b4, .ref b5, .ref b6, .ref b7, .ref b8, .ref b9, .int (nI mf), .ref b10, .ref b11, .ref b12, .int (nI my9_11), .int (nI (Bool.toNat mw9_11)), .ref b13, .ref b14, .ref b15])), fk_ai E b3 2 mc, fk_ai E b4 28 mi, fk_ai E b5 28 mu, fk_ai E b6 2 mfi, fk_ai E b7 2 mla, fk_ai E b8 2 mac, fk_ai E b12 16 tk9_11, fk_ab E b13 3216 mk9_11, fk_as E b14 1407 nx9_11] 14 [(0, .ref b0), (1, .int (nI q))] []
    refine fk_aload_n 0 d_Md_markings_14 rfl ?_
    refine fk_get 0 15 rfl rfl fh_Md (Nat.le_of_ble_eq_true rfl) fw_522 rfl d_Md_markings_15 ?_
    refine fk_if_eqB (b := mw9_11) d_Md_markings_18 rfl (fun h18t => ?_) (fun h18f => ?_)
    · refine fk_aload_n 0 d_Md_markings_26 rfl ?_
      refine fk_get 0 14 rfl rfl fh_Md (Nat.le_of_ble_eq_true rfl) fw_521 rfl d_Md_markings_27 ?_
      refine fk_top (congrArg nI (show my9_11 = (fe_run (fr_O mc mu mfi q) (fr_I mc mi mla q) (fr_me mc mi mu mfi mla mac q) 1400).1 from (hq11.2 h18t).2.1)) ?_
      exact hret (0, 0) _ 30 _ (my9_11, mw9_11, tk9_11, mk9_11, nx9_11) d_Md_markings_30 (trivial) (rfl)
    · have z := hq11.1 h18f
      rw [hw] at z; exact absurd z (by decide)
  · exact absurd (of_decide_eq_true h4f) (by omega)
set_option maxRecDepth 20000 in
set_option maxHeartbeats 4000000 in
theorem cD_markingsO (E : fk_E) (b0 : Nat) (b1 : Nat) (b2 : Nat) (b3 : Nat) (b4 : Nat) (b5 : Nat) (b6 : Nat) (b7 : Nat) (b8 : Nat) (b9 : Nat) (b10 : Nat) (b11 : Nat) (b12 : Nat) (b13 : Nat) (b14 : Nat) (b15 : Nat) (mt : Nat) (mf : Nat) (my : Nat) (mw : Bool) (q : Nat) (h : 2 ≤ q) (hq : q < 2 ^ 31) : fk_C E fy_Md_markings prog_8_method_31_code 2 (some .int) 4 0 0 [.ref b0, .int (nI q)] [(b0, .inr (6, [.int (nI mt), .ref b1, .ref b2, .ref b3, .ref b4, .ref b5, .ref b6, .ref b7, .ref b8, .ref b9, .int (nI mf), .ref b10, .ref b11, .ref b12, .int (nI my), .int (nI (Bool.toNat mw)), .ref b13, .ref b14, .ref b15]))] (S := Unit) (fun _ => some (.int (nI 0 - 1))) (fun _ => True) (fun _ => [(b0, .inr (6, [.int (nI mt), .ref b1, .ref b2, .ref b3, .ref b4, .ref b5, .ref b6, .ref b7, .ref b8, .ref b9, .int (nI mf), .ref b10, .ref b11, .ref b12, .int (nI my), .int (nI (Bool.toNat mw)), .ref b13, .ref b14, .ref b15]))]) := by
  refine fk_enterI (v := fun _ => (nI 0 - 1)) (by decide) (Nat.le_of_ble_eq_true rfl) (lv0 := [(0, .ref b0), (1, .int (nI q))]) rfl ?_
  intro K hini hret
  refine fk_iload_n 1 d_Md_markings_0 rfl ?_
  refine fk_callS (As := [.int (nI q)]) (rest := []) (is := []) (ir := [0]) (ip := [0]) (wc := []) (wr := [(b0, .inr (6, [.int (nI mt), .ref b1, .ref b2, .ref b3, .ref b4, .ref b5, .ref b6, .ref b7, .ref b8, .ref b9, .int (nI mf), .ref b10, .ref b11, .ref b12, .int (nI my), .int (nI (Bool.toNat mw)), .ref b13, .ref b14, .ref b15]))]) (w2 := fun _ => [(b0, .inr (6, [.int (nI mt), .ref b1, .ref b2, .ref b3, .ref b4, .ref b5, .ref b6, .ref b7, .ref b8, .ref b9, .int (nI mf), .ref b10, .ref b11, .ref b12, .int (nI my), .int (nI (Bool.toNat mw)), .ref b13, .ref b14, .ref b15]))]) (cD_notNet E q (by first | omega | assumption)) d_Md_markings_1 fz_Md_notNet fw_627 fw_628 ⟨Nat.le_of_ble_eq_true rfl, Nat.le_of_ble_eq_true rfl⟩ rfl (Nat.le_of_ble_eq_true rfl) ⟨Nat.zero_le _, Nat.zero_le _⟩ ⟨rfl, rfl, rfl, rfl, by decide, fun _ => rfl, rfl⟩ (fun u hu1 => ?_)
  show fk_V E _ K (0, 0) [(b0, .inr (6, [.int (nI mt), .ref b1, .ref b2, .ref b3, .ref b4, .ref b5, .ref b6, .ref b7, .ref b8, .ref b9, .int (nI mf), .ref b10, .ref b11, .ref b12, .int (nI my), .int (nI (Bool.toNat mw)), .ref b13, .ref b14, .ref b15]))] 4 [(0, .ref b0), (1, .int (nI q))] [.int (nI (Bool.toNat (decide (2 ≤ q))))]
  refine fk_if_eqB (b := (decide (2 ≤ q))) d_Md_markings_4 rfl (fun h4t => ?_) (fun h4f => ?_)
  · exact absurd (of_decide_eq_false h4t) (by omega)
  · refine fk_iconst (v := nI 0 - 1) d_Md_markings_7 (by decide +kernel) ?_
    exact hret (0, 0) _ 8 _ () d_Md_markings_8 (trivial) (rfl)
set_option maxRecDepth 20000 in
set_option maxHeartbeats 4000000 in
theorem cD_markingsM (E : fk_E) (b0 : Nat) (b1 : Nat) (b2 : Nat) (b3 : Nat) (b4 : Nat) (b5 : Nat) (b6 : Nat) (b7 : Nat) (b8 : Nat) (b9 : Nat) (b10 : Nat) (b11 : Nat) (b12 : Nat) (b13 : Nat) (b14 : Nat) (b15 : Nat) (mt : Nat) (mf : Nat) (my : Nat) (mw : Bool) (x : Int32) (hx : x < 0) : fk_C E fy_Md_markings prog_8_method_31_code 2 (some .int) 4 0 0 [.ref b0, .int x] [(b0, .inr (6, [.int (nI mt), .ref b1, .ref b2, .ref b3, .ref b4, .ref b5, .ref b6, .ref b7, .ref b8, .ref b9, .int (nI mf), .ref b10, .ref b11, .ref b12, .int (nI my), .int (nI (Bool.toNat mw)), .ref b13, .ref b14, .ref b15]))] (S := Unit) (fun _ => some (.int (nI 0 - 1))) (fun _ => True) (fun _ => [(b0, .inr (6, [.int (nI mt), .ref b1, .ref b2, .ref b3, .ref b4, .ref b5, .ref b6, .ref b7, .ref b8, .ref b9, .int (nI mf), .ref b10, .ref b11, .ref b12, .int (nI my), .int (nI (Bool.toNat mw)), .ref b13, .ref b14, .ref b15]))]) := by
  refine fk_enterI (v := fun _ => (nI 0 - 1)) (by decide) (Nat.le_of_ble_eq_true rfl) (lv0 := [(0, .ref b0), (1, .int x)]) rfl ?_
  intro K hini hret
  refine fk_iload_n 1 d_Md_markings_0 rfl ?_
  refine fk_callS (As := [.int x]) (rest := []) (is := []) (ir := [0]) (ip := [0]) (wc := []) (wr := [(b0, .inr (6, [.int (nI mt), .ref b1, .ref b2, .ref b3, .ref b4, .ref b5, .ref b6, .ref b7, .ref b8, .ref b9, .int (nI mf), .ref b10, .ref b11, .ref b12, .int (nI my), .int (nI (Bool.toNat mw)), .ref b13, .ref b14, .ref b15]))]) (w2 := fun _ => [(b0, .inr (6, [.int (nI mt), .ref b1, .ref b2, .ref b3, .ref b4, .ref b5, .ref b6, .ref b7, .ref b8, .ref b9, .int (nI mf), .ref b10, .ref b11, .ref b12, .int (nI my), .int (nI (Bool.toNat mw)), .ref b13, .ref b14, .ref b15]))]) (cD_notNetM E x (by first | omega | assumption)) d_Md_markings_1 fz_Md_notNet fw_627 fw_628 ⟨Nat.le_of_ble_eq_true rfl, Nat.le_of_ble_eq_true rfl⟩ rfl (Nat.le_of_ble_eq_true rfl) ⟨Nat.zero_le _, Nat.zero_le _⟩ ⟨rfl, rfl, rfl, rfl, by decide, fun _ => rfl, rfl⟩ (fun u hu1 => ?_)
  show fk_V E _ K (0, 0) [(b0, .inr (6, [.int (nI mt), .ref b1, .ref b2, .ref b3, .ref b4, .ref b5, .ref b6, .ref b7, .ref b8, .ref b9, .int (nI mf), .ref b10, .ref b11, .ref b12, .int (nI my), .int (nI (Bool.toNat mw)), .ref b13, .ref b14, .ref b15]))] 4 [(0, .ref b0), (1, .int x)] [.int (nI (Bool.toNat true))]
  refine fk_if_eqB (b := true) d_Md_markings_4 rfl (fun h4t => ?_) (fun h4f => ?_)
  · exact absurd h4t (by decide)
  · refine fk_iconst (v := nI 0 - 1) d_Md_markings_7 (by decide +kernel) ?_
    exact hret (0, 0) _ 8 _ () d_Md_markings_8 (trivial) (rfl)
theorem d_Md_sound_0 : decode prog_8_method_32_code 0 = .ok (.iload_n 1, 1) := by decide +kernel
theorem d_Md_sound_1 : decode prog_8_method_32_code 1 = .ok (.invokestatic 82, 3) := by decide +kernel
theorem d_Md_sound_4 : decode prog_8_method_32_code 4 = .ok (.ifCond .eq 5, 3) := by decide +kernel
theorem d_Md_sound_7 : decode prog_8_method_32_code 7 = .ok (.iconst (-1), 1) := by decide +kernel
theorem d_Md_sound_8 : decode prog_8_method_32_code 8 = .ok (.ireturn, 1) := by decide +kernel
theorem d_Md_sound_9 : decode prog_8_method_32_code 9 = .ok (.aload_n 0, 1) := by decide +kernel
theorem d_Md_sound_10 : decode prog_8_method_32_code 10 = .ok (.iload_n 1, 1) := by decide +kernel
theorem d_Md_sound_11 : decode prog_8_method_32_code 11 = .ok (.invokevirtual 126, 3) := by decide +kernel
theorem d_Md_sound_14 : decode prog_8_method_32_code 14 = .ok (.aload_n 0, 1) := by decide +kernel
theorem d_Md_sound_15 : decode prog_8_method_32_code 15 = .ok (.getfield 114, 3) := by decide +kernel
theorem d_Md_sound_18 : decode prog_8_method_32_code 18 = .ok (.ifCond .eq 6, 3) := by decide +kernel
theorem d_Md_sound_21 : decode prog_8_method_32_code 21 = .ok (.bipush (-3), 2) := by decide +kernel
theorem d_Md_sound_23 : decode prog_8_method_32_code 23 = .ok (.ireturn, 1) := by decide +kernel
theorem d_Md_sound_24 : decode prog_8_method_32_code 24 = .ok (.iconst 0, 1) := by decide +kernel
theorem d_Md_sound_25 : decode prog_8_method_32_code 25 = .ok (.istore_n 2, 1) := by decide +kernel
theorem d_Md_sound_26 : decode prog_8_method_32_code 26 = .ok (.iconst 1, 1) := by decide +kernel
theorem d_Md_sound_27 : decode prog_8_method_32_code 27 = .ok (.istore_n 3, 1) := by decide +kernel
theorem d_Md_sound_28 : decode prog_8_method_32_code 28 = .ok (.iconst 0, 1) := by decide +kernel
theorem d_Md_sound_29 : decode prog_8_method_32_code 29 = .ok (.istore 4, 2) := by decide +kernel
theorem d_Md_sound_31 : decode prog_8_method_32_code 31 = .ok (.iload 4, 2) := by decide +kernel
theorem d_Md_sound_33 : decode prog_8_method_32_code 33 = .ok (.aload_n 0, 1) := by decide +kernel
theorem d_Md_sound_34 : decode prog_8_method_32_code 34 = .ok (.getfield 111, 3) := by decide +kernel
theorem d_Md_sound_37 : decode prog_8_method_32_code 37 = .ok (.if_icmp .ge 99, 3) := by decide +kernel
theorem d_Md_sound_40 : decode prog_8_method_32_code 40 = .ok (.aload_n 0, 1) := by decide +kernel
theorem d_Md_sound_41 : decode prog_8_method_32_code 41 = .ok (.iload 4, 2) := by decide +kernel
theorem d_Md_sound_43 : decode prog_8_method_32_code 43 = .ok (.invokevirtual 122, 3) := by decide +kernel
theorem d_Md_sound_46 : decode prog_8_method_32_code 46 = .ok (.aload_n 0, 1) := by decide +kernel
theorem d_Md_sound_47 : decode prog_8_method_32_code 47 = .ok (.getfield 54, 3) := by decide +kernel
theorem d_Md_sound_50 : decode prog_8_method_32_code 50 = .ok (.iload 4, 2) := by decide +kernel
theorem d_Md_sound_52 : decode prog_8_method_32_code 52 = .ok (.aload_n 0, 1) := by decide +kernel
theorem d_Md_sound_53 : decode prog_8_method_32_code 53 = .ok (.invokevirtual 107, 3) := by decide +kernel
theorem d_Md_sound_56 : decode prog_8_method_32_code 56 = .ok (.bastore, 1) := by decide +kernel
theorem d_Md_sound_57 : decode prog_8_method_32_code 57 = .ok (.iload_n 3, 1) := by decide +kernel
theorem d_Md_sound_58 : decode prog_8_method_32_code 58 = .ok (.ifCond .eq 27, 3) := by decide +kernel
theorem d_Md_sound_61 : decode prog_8_method_32_code 61 = .ok (.aload_n 0, 1) := by decide +kernel
theorem d_Md_sound_62 : decode prog_8_method_32_code 62 = .ok (.getfield 43, 3) := by decide +kernel
theorem d_Md_sound_65 : decode prog_8_method_32_code 65 = .ok (.bipush 15, 2) := by decide +kernel
theorem d_Md_sound_67 : decode prog_8_method_32_code 67 = .ok (.iaload, 1) := by decide +kernel
theorem d_Md_sound_68 : decode prog_8_method_32_code 68 = .ok (.ifCond .eq 13, 3) := by decide +kernel
theorem d_Md_sound_71 : decode prog_8_method_32_code 71 = .ok (.aload_n 0, 1) := by decide +kernel
theorem d_Md_sound_72 : decode prog_8_method_32_code 72 = .ok (.getfield 54, 3) := by decide +kernel
theorem d_Md_sound_75 : decode prog_8_method_32_code 75 = .ok (.iload 4, 2) := by decide +kernel
theorem d_Md_sound_77 : decode prog_8_method_32_code 77 = .ok (.baload, 1) := by decide +kernel
theorem d_Md_sound_78 : decode prog_8_method_32_code 78 = .ok (.ifCond .eq 7, 3) := by decide +kernel
theorem d_Md_sound_81 : decode prog_8_method_32_code 81 = .ok (.iconst 1, 1) := by decide +kernel
theorem d_Md_sound_82 : decode prog_8_method_32_code 82 = .ok (.goto 4, 3) := by decide +kernel
theorem d_Md_sound_85 : decode prog_8_method_32_code 85 = .ok (.iconst 0, 1) := by decide +kernel
theorem d_Md_sound_86 : decode prog_8_method_32_code 86 = .ok (.istore_n 3, 1) := by decide +kernel
theorem d_Md_sound_87 : decode prog_8_method_32_code 87 = .ok (.iconst 0, 1) := by decide +kernel
theorem d_Md_sound_88 : decode prog_8_method_32_code 88 = .ok (.istore 5, 2) := by decide +kernel
theorem d_Md_sound_90 : decode prog_8_method_32_code 90 = .ok (.iload 5, 2) := by decide +kernel
theorem d_Md_sound_92 : decode prog_8_method_32_code 92 = .ok (.bipush 7, 2) := by decide +kernel
theorem d_Md_sound_94 : decode prog_8_method_32_code 94 = .ok (.if_icmp .ge 36, 3) := by decide +kernel
theorem d_Md_sound_97 : decode prog_8_method_32_code 97 = .ok (.iload_n 2, 1) := by decide +kernel
theorem d_Md_sound_98 : decode prog_8_method_32_code 98 = .ok (.aload_n 0, 1) := by decide +kernel
theorem d_Md_sound_99 : decode prog_8_method_32_code 99 = .ok (.getfield 50, 3) := by decide +kernel
theorem d_Md_sound_102 : decode prog_8_method_32_code 102 = .ok (.bipush 7, 2) := by decide +kernel
theorem d_Md_sound_104 : decode prog_8_method_32_code 104 = .ok (.iload 4, 2) := by decide +kernel
theorem d_Md_sound_106 : decode prog_8_method_32_code 106 = .ok (.imul, 1) := by decide +kernel
theorem d_Md_sound_107 : decode prog_8_method_32_code 107 = .ok (.iload 5, 2) := by decide +kernel
theorem d_Md_sound_109 : decode prog_8_method_32_code 109 = .ok (.iadd, 1) := by decide +kernel
theorem d_Md_sound_110 : decode prog_8_method_32_code 110 = .ok (.saload, 1) := by decide +kernel
theorem d_Md_sound_111 : decode prog_8_method_32_code 111 = .ok (.ifCond .lt 10, 3) := by decide +kernel
theorem d_Md_sound_114 : decode prog_8_method_32_code 114 = .ok (.iconst 1, 1) := by decide +kernel
theorem d_Md_sound_115 : decode prog_8_method_32_code 115 = .ok (.iload 5, 2) := by decide +kernel
theorem d_Md_sound_117 : decode prog_8_method_32_code 117 = .ok (.ishl, 1) := by decide +kernel
theorem d_Md_sound_118 : decode prog_8_method_32_code 118 = .ok (.goto 4, 3) := by decide +kernel
theorem d_Md_sound_121 : decode prog_8_method_32_code 121 = .ok (.iconst 0, 1) := by decide +kernel
theorem d_Md_sound_122 : decode prog_8_method_32_code 122 = .ok (.ior, 1) := by decide +kernel
theorem d_Md_sound_123 : decode prog_8_method_32_code 123 = .ok (.istore_n 2, 1) := by decide +kernel
theorem d_Md_sound_124 : decode prog_8_method_32_code 124 = .ok (.iinc 5 1, 3) := by decide +kernel
theorem d_Md_sound_127 : decode prog_8_method_32_code 127 = .ok (.goto (-37), 3) := by decide +kernel
theorem d_Md_sound_130 : decode prog_8_method_32_code 130 = .ok (.iinc 4 1, 3) := by decide +kernel
theorem d_Md_sound_133 : decode prog_8_method_32_code 133 = .ok (.goto (-102), 3) := by decide +kernel
theorem d_Md_sound_136 : decode prog_8_method_32_code 136 = .ok (.iconst 1, 1) := by decide +kernel
theorem d_Md_sound_137 : decode prog_8_method_32_code 137 = .ok (.istore 4, 2) := by decide +kernel
theorem d_Md_sound_139 : decode prog_8_method_32_code 139 = .ok (.iload 4, 2) := by decide +kernel
theorem d_Md_sound_141 : decode prog_8_method_32_code 141 = .ok (.ifCond .eq 94, 3) := by decide +kernel
theorem d_Md_sound_144 : decode prog_8_method_32_code 144 = .ok (.iconst 0, 1) := by decide +kernel
theorem d_Md_sound_145 : decode prog_8_method_32_code 145 = .ok (.istore 4, 2) := by decide +kernel
theorem d_Md_sound_147 : decode prog_8_method_32_code 147 = .ok (.iconst 0, 1) := by decide +kernel
theorem d_Md_sound_148 : decode prog_8_method_32_code 148 = .ok (.istore 5, 2) := by decide +kernel
theorem d_Md_sound_150 : decode prog_8_method_32_code 150 = .ok (.iload 5, 2) := by decide +kernel
theorem d_Md_sound_152 : decode prog_8_method_32_code 152 = .ok (.aload_n 0, 1) := by decide +kernel
theorem d_Md_sound_153 : decode prog_8_method_32_code 153 = .ok (.getfield 111, 3) := by decide +kernel
theorem d_Md_sound_156 : decode prog_8_method_32_code 156 = .ok (.if_icmp .ge 76, 3) := by decide +kernel
theorem d_Md_sound_159 : decode prog_8_method_32_code 159 = .ok (.iconst 0, 1) := by decide +kernel
theorem d_Md_sound_160 : decode prog_8_method_32_code 160 = .ok (.istore 6, 2) := by decide +kernel
theorem d_Md_sound_162 : decode prog_8_method_32_code 162 = .ok (.iload 6, 2) := by decide +kernel
theorem d_Md_sound_164 : decode prog_8_method_32_code 164 = .ok (.bipush 7, 2) := by decide +kernel
theorem d_Md_sound_166 : decode prog_8_method_32_code 166 = .ok (.if_icmp .ge 60, 3) := by decide +kernel
theorem d_Md_sound_169 : decode prog_8_method_32_code 169 = .ok (.aload_n 0, 1) := by decide +kernel
theorem d_Md_sound_170 : decode prog_8_method_32_code 170 = .ok (.getfield 50, 3) := by decide +kernel
theorem d_Md_sound_173 : decode prog_8_method_32_code 173 = .ok (.bipush 7, 2) := by decide +kernel
theorem d_Md_sound_175 : decode prog_8_method_32_code 175 = .ok (.iload 5, 2) := by decide +kernel
theorem d_Md_sound_177 : decode prog_8_method_32_code 177 = .ok (.imul, 1) := by decide +kernel
theorem d_Md_sound_178 : decode prog_8_method_32_code 178 = .ok (.iload 6, 2) := by decide +kernel
theorem d_Md_sound_180 : decode prog_8_method_32_code 180 = .ok (.iadd, 1) := by decide +kernel
theorem d_Md_sound_181 : decode prog_8_method_32_code 181 = .ok (.saload, 1) := by decide +kernel
theorem d_Md_sound_182 : decode prog_8_method_32_code 182 = .ok (.istore 7, 2) := by decide +kernel
theorem d_Md_sound_184 : decode prog_8_method_32_code 184 = .ok (.iload 7, 2) := by decide +kernel
theorem d_Md_sound_186 : decode prog_8_method_32_code 186 = .ok (.ifCond .lt 34, 3) := by decide +kernel
theorem d_Md_sound_189 : decode prog_8_method_32_code 189 = .ok (.aload_n 0, 1) := by decide +kernel
theorem d_Md_sound_190 : decode prog_8_method_32_code 190 = .ok (.getfield 54, 3) := by decide +kernel
theorem d_Md_sound_193 : decode prog_8_method_32_code 193 = .ok (.iload 7, 2) := by decide +kernel
theorem d_Md_sound_195 : decode prog_8_method_32_code 195 = .ok (.baload, 1) := by decide +kernel
theorem d_Md_sound_196 : decode prog_8_method_32_code 196 = .ok (.ifCond .eq 24, 3) := by decide +kernel
theorem d_Md_sound_199 : decode prog_8_method_32_code 199 = .ok (.aload_n 0, 1) := by decide +kernel
theorem d_Md_sound_200 : decode prog_8_method_32_code 200 = .ok (.getfield 54, 3) := by decide +kernel
theorem d_Md_sound_203 : decode prog_8_method_32_code 203 = .ok (.iload 5, 2) := by decide +kernel
theorem d_Md_sound_205 : decode prog_8_method_32_code 205 = .ok (.baload, 1) := by decide +kernel
theorem d_Md_sound_206 : decode prog_8_method_32_code 206 = .ok (.ifCond .ne 14, 3) := by decide +kernel
theorem d_Md_sound_209 : decode prog_8_method_32_code 209 = .ok (.aload_n 0, 1) := by decide +kernel
theorem d_Md_sound_210 : decode prog_8_method_32_code 210 = .ok (.getfield 54, 3) := by decide +kernel
theorem d_Md_sound_213 : decode prog_8_method_32_code 213 = .ok (.iload 5, 2) := by decide +kernel
theorem d_Md_sound_215 : decode prog_8_method_32_code 215 = .ok (.iconst 1, 1) := by decide +kernel
theorem d_Md_sound_216 : decode prog_8_method_32_code 216 = .ok (.bastore, 1) := by decide +kernel
theorem d_Md_sound_217 : decode prog_8_method_32_code 217 = .ok (.iconst 1, 1) := by decide +kernel
theorem d_Md_sound_218 : decode prog_8_method_32_code 218 = .ok (.istore 4, 2) := by decide +kernel
theorem d_Md_sound_220 : decode prog_8_method_32_code 220 = .ok (.iinc 6 1, 3) := by decide +kernel
theorem d_Md_sound_223 : decode prog_8_method_32_code 223 = .ok (.goto (-61), 3) := by decide +kernel
theorem d_Md_sound_226 : decode prog_8_method_32_code 226 = .ok (.iinc 5 1, 3) := by decide +kernel
theorem d_Md_sound_229 : decode prog_8_method_32_code 229 = .ok (.goto (-79), 3) := by decide +kernel
theorem d_Md_sound_232 : decode prog_8_method_32_code 232 = .ok (.goto (-93), 3) := by decide +kernel
theorem d_Md_sound_235 : decode prog_8_method_32_code 235 = .ok (.iload_n 3, 1) := by decide +kernel
theorem d_Md_sound_236 : decode prog_8_method_32_code 236 = .ok (.ifCond .eq 16, 3) := by decide +kernel
theorem d_Md_sound_239 : decode prog_8_method_32_code 239 = .ok (.iload_n 2, 1) := by decide +kernel
theorem d_Md_sound_240 : decode prog_8_method_32_code 240 = .ok (.aload_n 0, 1) := by decide +kernel
theorem d_Md_sound_241 : decode prog_8_method_32_code 241 = .ok (.iload_n 1, 1) := by decide +kernel
theorem d_Md_sound_242 : decode prog_8_method_32_code 242 = .ok (.invokevirtual 86, 3) := by decide +kernel
theorem d_Md_sound_245 : decode prog_8_method_32_code 245 = .ok (.if_icmp .ne 7, 3) := by decide +kernel
theorem d_Md_sound_248 : decode prog_8_method_32_code 248 = .ok (.iconst 1, 1) := by decide +kernel
theorem d_Md_sound_249 : decode prog_8_method_32_code 249 = .ok (.goto 4, 3) := by decide +kernel
theorem d_Md_sound_252 : decode prog_8_method_32_code 252 = .ok (.iconst 0, 1) := by decide +kernel
theorem d_Md_sound_253 : decode prog_8_method_32_code 253 = .ok (.istore 5, 2) := by decide +kernel
theorem d_Md_sound_255 : decode prog_8_method_32_code 255 = .ok (.iconst 0, 1) := by decide +kernel
theorem d_Md_sound_256 : decode prog_8_method_32_code 256 = .ok (.istore 6, 2) := by decide +kernel
theorem d_Md_sound_258 : decode prog_8_method_32_code 258 = .ok (.iload 6, 2) := by decide +kernel
theorem d_Md_sound_260 : decode prog_8_method_32_code 260 = .ok (.aload_n 0, 1) := by decide +kernel
theorem d_Md_sound_261 : decode prog_8_method_32_code 261 = .ok (.getfield 111, 3) := by decide +kernel
theorem d_Md_sound_264 : decode prog_8_method_32_code 264 = .ok (.if_icmp .ge 31, 3) := by decide +kernel
theorem d_Md_sound_267 : decode prog_8_method_32_code 267 = .ok (.iload 5, 2) := by decide +kernel
theorem d_Md_sound_269 : decode prog_8_method_32_code 269 = .ok (.ifCond .eq 17, 3) := by decide +kernel
theorem d_Md_sound_272 : decode prog_8_method_32_code 272 = .ok (.aload_n 0, 1) := by decide +kernel
theorem d_Md_sound_273 : decode prog_8_method_32_code 273 = .ok (.getfield 54, 3) := by decide +kernel
theorem d_Md_sound_276 : decode prog_8_method_32_code 276 = .ok (.iload 6, 2) := by decide +kernel
theorem d_Md_sound_278 : decode prog_8_method_32_code 278 = .ok (.baload, 1) := by decide +kernel
theorem d_Md_sound_279 : decode prog_8_method_32_code 279 = .ok (.ifCond .eq 7, 3) := by decide +kernel
theorem d_Md_sound_282 : decode prog_8_method_32_code 282 = .ok (.iconst 1, 1) := by decide +kernel
theorem d_Md_sound_283 : decode prog_8_method_32_code 283 = .ok (.goto 4, 3) := by decide +kernel
theorem d_Md_sound_286 : decode prog_8_method_32_code 286 = .ok (.iconst 0, 1) := by decide +kernel
theorem d_Md_sound_287 : decode prog_8_method_32_code 287 = .ok (.istore 5, 2) := by decide +kernel
theorem d_Md_sound_289 : decode prog_8_method_32_code 289 = .ok (.iinc 6 1, 3) := by decide +kernel
theorem d_Md_sound_292 : decode prog_8_method_32_code 292 = .ok (.goto (-34), 3) := by decide +kernel
theorem d_Md_sound_295 : decode prog_8_method_32_code 295 = .ok (.iload 5, 2) := by decide +kernel
theorem d_Md_sound_297 : decode prog_8_method_32_code 297 = .ok (.ifCond .eq 7, 3) := by decide +kernel
theorem d_Md_sound_300 : decode prog_8_method_32_code 300 = .ok (.iconst 1, 1) := by decide +kernel
theorem d_Md_sound_301 : decode prog_8_method_32_code 301 = .ok (.goto 4, 3) := by decide +kernel
theorem d_Md_sound_304 : decode prog_8_method_32_code 304 = .ok (.iconst 0, 1) := by decide +kernel
theorem d_Md_sound_305 : decode prog_8_method_32_code 305 = .ok (.ireturn, 1) := by decide +kernel
set_option maxRecDepth 20000 in
set_option maxHeartbeats 4000000 in
theorem cD_soundO (E : fk_E) (b0 : Nat) (b1 : Nat) (b2 : Nat) (b3 : Nat) (b4 : Nat) (b5 : Nat) (b6 : Nat) (b7 : Nat) (b8 : Nat) (b9 : Nat) (b10 : Nat) (b11 : Nat) (b12 : Nat) (b13 : Nat) (b14 : Nat) (b15 : Nat) (mt : Nat) (mf : Nat) (my : Nat) (mw : Bool) (q : Nat) (h : 2 ≤ q) (hq : q < 2 ^ 31) : fk_C E fy_Md_sound prog_8_method_32_code 8 (some .int) 4 0 0 [.ref b0, .int (nI q)] [(b0, .inr (6, [.int (nI mt), .ref b1, .ref b2, .ref b3, .ref b4, .ref b5, .ref b6, .ref b7, .ref b8, .ref b9, .int (nI mf), .ref b10, .ref b11, .ref b12, .int (nI my), .int (nI (Bool.toNat mw)), .ref b13, .ref b14, .ref b15]))] (S := Unit) (fun _ => some (.int (nI 0 - 1))) (fun _ => True) (fun _ => [(b0, .inr (6, [.int (nI mt), .ref b1, .ref b2, .ref b3, .ref b4, .ref b5, .ref b6, .ref b7, .ref b8, .ref b9, .int (nI mf), .ref b10, .ref b11, .ref b12, .int (nI my), .int (nI (Bool.toNat mw)), .ref b13, .ref b14, .ref b15]))]) := by
  refine fk_enterI (v := fun _ => (nI 0 - 1)) (by decide) (Nat.le_of_ble_eq_true rfl) (lv0 := [(0, .ref b0), (1, .int (nI q))]) rfl ?_
  intro K hini hret
  refine fk_iload_n 1 d_Md_sound_0 rfl ?_
  refine fk_callS (As := [.int (nI q)]) (rest := []) (is := []) (ir := [0]) (ip := [0]) (wc := []) (wr := [(b0, .inr (6, [.int (nI mt), .ref b1, .ref b2, .ref b3, .ref b4, .ref b5, .ref b6, .ref b7, .ref b8, .ref b9, .int (nI mf), .ref b10, .ref b11, .ref b12, .int (nI my), .int (nI (Bool.toNat mw)), .ref b13, .ref b14, .ref b15]))]) (w2 := fun _ => [(b0, .inr (6, [.int (nI mt), .ref b1, .ref b2, .ref b3, .ref b4, .ref b5, .ref b6, .ref b7, .ref b8, .ref b9, .int (nI mf), .ref b10, .ref b11, .ref b12, .int (nI my), .int (nI (Bool.toNat mw)), .ref b13, .ref b14, .ref b15]))]) (cD_notNet E q (by first | omega | assumption)) d_Md_sound_1 fz_Md_notNet fw_627 fw_628 ⟨Nat.le_of_ble_eq_true rfl, Nat.le_of_ble_eq_true rfl⟩ rfl (Nat.le_of_ble_eq_true rfl) ⟨Nat.zero_le _, Nat.zero_le _⟩ ⟨rfl, rfl, rfl, rfl, by decide, fun _ => rfl, rfl⟩ (fun u hu1 => ?_)
  show fk_V E _ K (0, 0) [(b0, .inr (6, [.int (nI mt), .ref b1, .ref b2, .ref b3, .ref b4, .ref b5, .ref b6, .ref b7, .ref b8, .ref b9, .int (nI mf), .ref b10, .ref b11, .ref b12, .int (nI my), .int (nI (Bool.toNat mw)), .ref b13, .ref b14, .ref b15]))] 4 [(0, .ref b0), (1, .int (nI q))] [.int (nI (Bool.toNat (decide (2 ≤ q))))]
  refine fk_if_eqB (b := (decide (2 ≤ q))) d_Md_sound_4 rfl (fun h4t => ?_) (fun h4f => ?_)
  · exact absurd (of_decide_eq_false h4t) (by omega)
  · refine fk_iconst (v := nI 0 - 1) d_Md_sound_7 (by decide +kernel) ?_
    exact hret (0, 0) _ 8 _ () d_Md_sound_8 (trivial) (rfl)
set_option maxRecDepth 20000 in
set_option maxHeartbeats 4000000 in
theorem cD_soundM (E : fk_E) (b0 : Nat) (b1 : Nat) (b2 : Nat) (b3 : Nat) (b4 : Nat) (b5 : Nat) (b6 : Nat) (b7 : Nat) (b8 : Nat) (b9 : Nat) (b10 : Nat) (b11 : Nat) (b12 : Nat) (b13 : Nat) (b14 : Nat) (b15 : Nat) (mt : Nat) (mf : Nat) (my : Nat) (mw : Bool) (x : Int32) (hx : x < 0) : fk_C E fy_Md_sound prog_8_method_32_code 8 (some .int) 4 0 0 [.ref b0, .int x] [(b0, .inr (6, [.int (nI mt), .ref b1, .ref b2, .ref b3, .ref b4, .ref b5, .ref b6, .ref b7, .ref b8, .ref b9, .int (nI mf), .ref b10, .ref b11, .ref b12, .int (nI my), .int (nI (Bool.toNat mw)), .ref b13, .ref b14, .ref b15]))] (S := Unit) (fun _ => some (.int (nI 0 - 1))) (fun _ => True) (fun _ => [(b0, .inr (6, [.int (nI mt), .ref b1, .ref b2, .ref b3, .ref b4, .ref b5, .ref b6, .ref b7, .ref b8, .ref b9, .int (nI mf), .ref b10, .ref b11, .ref b12, .int (nI my), .int (nI (Bool.toNat mw)), .ref b13, .ref b14, .ref b15]))]) := by
  refine fk_enterI (v := fun _ => (nI 0 - 1)) (by decide) (Nat.le_of_ble_eq_true rfl) (lv0 := [(0, .ref b0), (1, .int x)]) rfl ?_
  intro K hini hret
  refine fk_iload_n 1 d_Md_sound_0 rfl ?_
  refine fk_callS (As := [.int x]) (rest := []) (is := []) (ir := [0]) (ip := [0]) (wc := []) (wr := [(b0, .inr (6, [.int (nI mt), .ref b1, .ref b2, .ref b3, .ref b4, .ref b5, .ref b6, .ref b7, .ref b8, .ref b9, .int (nI mf), .ref b10, .ref b11, .ref b12, .int (nI my), .int (nI (Bool.toNat mw)), .ref b13, .ref b14, .ref b15]))]) (w2 := fun _ => [(b0, .inr (6, [.int (nI mt), .ref b1, .ref b2, .ref b3, .ref b4, .ref b5, .ref b6, .ref b7, .ref b8, .ref b9, .int (nI mf), .ref b10, .ref b11, .ref b12, .int (nI my), .int (nI (Bool.toNat mw)), .ref b13, .ref b14, .ref b15]))]) (cD_notNetM E x (by first | omega | assumption)) d_Md_sound_1 fz_Md_notNet fw_627 fw_628 ⟨Nat.le_of_ble_eq_true rfl, Nat.le_of_ble_eq_true rfl⟩ rfl (Nat.le_of_ble_eq_true rfl) ⟨Nat.zero_le _, Nat.zero_le _⟩ ⟨rfl, rfl, rfl, rfl, by decide, fun _ => rfl, rfl⟩ (fun u hu1 => ?_)
  show fk_V E _ K (0, 0) [(b0, .inr (6, [.int (nI mt), .ref b1, .ref b2, .ref b3, .ref b4, .ref b5, .ref b6, .ref b7, .ref b8, .ref b9, .int (nI mf), .ref b10, .ref b11, .ref b12, .int (nI my), .int (nI (Bool.toNat mw)), .ref b13, .ref b14, .ref b15]))] 4 [(0, .ref b0), (1, .int x)] [.int (nI (Bool.toNat true))]
  refine fk_if_eqB (b := true) d_Md_sound_4 rfl (fun h4t => ?_) (fun h4f => ?_)
  · exact absurd h4t (by decide)
  · refine fk_iconst (v := nI 0 - 1) d_Md_sound_7 (by decide +kernel) ?_
    exact hret (0, 0) _ 8 _ () d_Md_sound_8 (trivial) (rfl)
set_option maxRecDepth 20000 in
set_option maxHeartbeats 4000000 in
theorem cD_soundW (E : fk_E) (b0 : Nat) (b1 : Nat) (b2 : Nat) (b3 : Nat) (b4 : Nat) (b5 : Nat) (b6 : Nat) (b7 : Nat) (b8 : Nat) (b9 : Nat) (b10 : Nat) (b11 : Nat) (b12 : Nat) (b13 : Nat) (b14 : Nat) (b15 : Nat) (mt : Nat) (mf : Nat) (my : Nat) (mw : Bool) (mc : Nat → Nat) (mi : Nat → Nat) (mu : Nat → Nat) (mfi : Nat → Nat) (mla : Nat → Nat) (mac : Nat → Nat) (tk : Nat → Nat) (mmk : Nat → Nat) (mnx : Nat → Nat) (q : Nat) (hN : fr_N mc mi mu mfi mla) (hm1 : mac 1 < 128) (hq : q < 2) (hw : (fe_run (fr_O mc mu mfi q) (fr_I mc mi mla q) (fr_me mc mi mu mfi mla mac q) 1400).2.2.2 = true) : fk_C E fy_Md_sound prog_8_method_32_code 8 (some .int) 4 0 0 [.ref b0, .int (nI q)] [(b0, .inr (6, [.int (nI mt), .ref b1, .ref b2, .ref b3, .ref b4, .ref b5, .ref b6, .ref b7, .ref b8, .ref b9, .int (nI mf), .ref b10, .ref b11, .ref b12, .int (nI my), .int (nI (Bool.toNat mw)), .ref b13, .ref b14, .ref b15])), fk_ai E b3 2 mc, fk_ai E b4 28 mi, fk_ai E b5 28 mu, fk_ai E b6 2 mfi, fk_ai E b7 2 mla, fk_ai E b8 2 mac, fk_ai E b12 16 tk, fk_ab E b13 3216 mmk, fk_as E b14 1407 mnx] (S := Nat × Bool × (Nat → Nat) × (Nat → Nat) × (Nat → Nat)) (fun (u : Nat × Bool × (Nat → Nat) × (Nat → Nat) × (Nat → Nat)) => some (.int (-3))) (fun (u : Nat × Bool × (Nat → Nat) × (Nat → Nat) × (Nat → Nat)) => True) (fun (u : Nat × Bool × (Nat → Nat) × (Nat → Nat) × (Nat → Nat)) => [(b0, .inr (6, [.int (nI mt), .ref b1, .ref b2, .ref b3, .ref b4, .ref b5, .ref b6, .ref b7, .ref b8, .ref b9, .int (nI mf), .ref b10, .ref b11, .ref b12, .int (nI u.1), .int (nI (Bool.toNat u.2.1)), .ref b13, .ref b14, .ref b15])), fk_ai E b3 2 mc, fk_ai E b4 28 mi, fk_ai E b5 28 mu, fk_ai E b6 2 mfi, fk_ai E b7 2 mla, fk_ai E b8 2 mac, fk_ai E b12 16 u.2.2.1, fk_ab E b13 3216 u.2.2.2.1, fk_as E b14 1407 u.2.2.2.2]) := by
  refine fk_enterI (v := fun (u : Nat × Bool × (Nat → Nat) × (Nat → Nat) × (Nat → Nat)) => (-3)) (by decide) (Nat.le_of_ble_eq_true rfl) (lv0 := [(0, .ref b0), (1, .int (nI q))]) rfl ?_
  intro K hini hret
  refine fk_iload_n 1 d_Md_sound_0 rfl ?_
  refine fk_callS (As := [.int (nI q)]) (rest := []) (is := []) (ir := [0, 1, 2, 3, 4, 5, 6, 7, 8, 9]) (ip := [0, 1, 2, 3, 4, 5, 6, 7, 8, 9]) (wc := []) (wr := [(b0, .inr (6, [.int (nI mt), .ref b1, .ref b2, .ref b3, .ref b4, .ref b5, .ref b6, .ref b7, .ref b8, .ref b9, .int (nI mf), .ref b10, .ref b11, .ref b12, .int (nI my), .int (nI (Bool.toNat mw)), .ref b13, .ref b14, .ref b15])), fk_ai E b3 2 mc, fk_ai E b4 28 mi, fk_ai E b5 28 mu, fk_ai E b6 2 mfi, fk_ai E b7 2 mla, fk_ai E b8 2 mac, fk_ai E b12 16 tk, fk_ab E b13 3216 mmk, fk_as E b14 1407 mnx]) (w2 := fun _ => [(b0, .inr (6, [.int (nI mt), .ref b1, .ref b2, .ref b3, .ref b4, .ref b5, .ref b6, .ref b7, .ref b8, .ref b9, .int (nI mf), .ref b10, .ref b11, .ref b12, .int (nI my), .int (nI (Bool.toNat mw)), .ref b13, .ref b14, .ref b15])), fk_ai E b3 2 mc, fk_ai E b4 28 mi, fk_ai E b5 28 mu, fk_ai E b6 2 mfi, fk_ai E b7 2 mla, fk_ai E b8 2 mac, fk_ai E b12 16 tk, fk_ab E b13 3216 mmk, fk_as E b14 1407 mnx]) (cD_notNet E q (by first | omega | assumption)) d_Md_sound_1 fz_Md_notNet fw_627 fw_628 ⟨Nat.le_of_ble_eq_true rfl, Nat.le_of_ble_eq_true rfl⟩ rfl (Nat.le_of_ble_eq_true rfl) ⟨Nat.zero_le _, Nat.zero_le _⟩ ⟨rfl, rfl, rfl, rfl, by decide, fun _ => rfl, rfl⟩ (fun u hu1 => ?_)
  show fk_V E _ K (0, 0) [(b0, .inr (6, [.int (nI mt), .ref b1, .ref b2, .ref b3, .ref b4, .ref b5, .ref b6, .ref b7, .ref b8, .ref b9, .int (nI mf), .ref b10, .ref b11, .ref b12, .int (nI my), .int (nI (Bool.toNat mw)), .ref b13, .ref b14, .ref b15])), fk_ai E b3 2 mc, fk_ai E b4 28 mi, fk_ai E b5 28 mu, fk_ai E b6 2 mfi, fk_ai E b7 2 mla, fk_ai E b8 2 mac, fk_ai E b12 16 tk, fk_ab E b13 3216 mmk, fk_as E b14 1407 mnx] 4 [(0, .ref b0), (1, .int (nI q))] [.int (nI (Bool.toNat (decide (2 ≤ q))))]
  refine fk_if_eqB (b := (decide (2 ≤ q))) d_Md_sound_4 rfl (fun h4t => ?_) (fun h4f => ?_)
  · refine fk_aload_n 0 d_Md_sound_9 rfl ?_
    refine fk_iload_n 1 d_Md_sound_10 rfl ?_
    refine fk_callV (q0 := 0) (As := [.int (nI q)]) (rest := []) (is := [0, 1, 2, 3, 4, 5, 6, 7, 8, 9]) (ir := []) (ip := [0, 1, 2, 3, 4, 5, 6, 7, 8, 9]) (wc := [(b0, .inr (6, [.int (nI mt), .ref b1, .ref b2, .ref b3, .ref b4, .ref b5, .ref b6, .ref b7, .ref b8, .ref b9, .int (nI mf), .ref b10, .ref b11, .ref b12, .int (nI my), .int (nI (Bool.toNat mw)), .ref b13, .ref b14, .ref b15])), fk_ai E b3 2 mc, fk_ai E b4 28 mi, fk_ai E b5 28 mu, fk_ai E b6 2 mfi, fk_ai E b7 2 mla, fk_ai E b8 2 mac, fk_ai E b12 16 tk, fk_ab E b13 3216 mmk, fk_as E b14 1407 mnx]) (wr := []) (w2 := fun u => [(b0, .inr (6, [.int (nI mt), .ref b1, .ref b2, .ref b3, .ref b4, .ref b5, .ref b6, .ref b7, .ref b8, .ref b9, .int (nI mf), .ref b10, .ref b11, .ref b12, .int (nI u.1), .int (nI (Bool.toNat u.2.1)), .ref b13, .ref b14, .ref b15])), fk_ai E b3 2 mc, fk_ai E b4 28 mi, fk_ai E b5 28 mu, fk_ai E b6 2 mfi, fk_ai E b7 2 mla, fk_ai E b8 2 mac, fk_ai E b12 16 u.2.2.1, fk_ab E b13 3216 u.2.2.2.1, fk_as E b14 1407 u.2.2.2.2]) (cD_explore E b0 b1 b2 b3 b4 b5 b6 b7 b8 b9 b10 b11 b12 b13 b14 b15 mt mf my mw mc mi mu mfi mla mac tk mmk mnx q (by first | omega | assumption) (by first | omega | assumption) (by first | omega | assumption)) d_Md_sound_11 fz_Md_explore fw_674 rfl rfl fw_676 fw_p26 ⟨Nat.le_of_ble_eq_true rfl, Nat.le_of_ble_eq_true rfl⟩ rfl (Nat.le_of_ble_eq_true rfl) ⟨Nat.zero_le _, Nat.zero_le _⟩ ⟨rfl, rfl, rfl, rfl, by decide, fun _ => rfl, rfl⟩ (fun u hu11 => ?_)
    obtain ⟨my9_11, mw9_11, tk9_11, mk9_11, nx9_11⟩ := u
    have hq11 : fr_F (fr_O mc mu mfi q) (fr_I mc mi mla q) (fr_me mc mi mu mfi mla mac q) my9_11 mw9_11 mk9_11 nx9_11 := hu11
    show fk_V E _ K (0, 0) [(b0, .inr (6, [.int (nI mt), .ref b1, .ref b2, .ref b3, .ref b4, .ref b5, .ref b6, .ref b7, .ref b8, .ref b9, .int (nI mf), .ref b10, .ref b11, .ref b12, .int (nI my9_11), .int (nI (Bool.toNat mw9_11)), .ref b13, .ref b14, .ref b15])), fk_ai E b3 2 mc, fk_ai E b4 28 mi, fk_ai E b5 28 mu, fk_ai E b6 2 mfi, fk_ai E b7 2 mla, fk_ai E b8 2 mac, fk_ai E b12 16 tk9_11, fk_ab E b13 3216 mk9_11, fk_as E b14 1407 nx9_11] 14 [(0, .ref b0), (1, .int (nI q))] []
    refine fk_aload_n 0 d_Md_sound_14 rfl ?_
    refine fk_get 0 15 rfl rfl fh_Md (Nat.le_of_ble_eq_true rfl) fw_522 rfl d_Md_sound_15 ?_
    refine fk_if_eqB (b := mw9_11) d_Md_sound_18 rfl (fun h18t => ?_) (fun h18f => ?_)
    · have z := (hq11.2 h18t).1
      rw [hw] at z; exact absurd z (by decide)
    · refine fk_bipush (v := -3) d_Md_sound_21 (by decide +kernel) ?_
      exact hret (0, 0) _ 23 _ (my9_11, mw9_11, tk9_11, mk9_11, nx9_11) d_Md_sound_23 (trivial) (rfl)
  · exact absurd (of_decide_eq_true h4f) (by omega)
