theorem d_Md_play_0 : decode prog_8_method_36_code 0 = .ok (.aload_n 0, 1) := by decide +kernel
theorem d_Md_play_1 : decode prog_8_method_36_code 1 = .ok (.getfield 58, 3) := by decide +kernel
theorem d_Md_play_4 : decode prog_8_method_36_code 4 = .ok (.bipush 20, 2) := by decide +kernel
theorem d_Md_play_6 : decode prog_8_method_36_code 6 = .ok (.if_icmp .ne 6, 3) := by decide +kernel
theorem d_Md_play_9 : decode prog_8_method_36_code 9 = .ok (.bipush (-2), 2) := by decide +kernel
theorem d_Md_play_11 : decode prog_8_method_36_code 11 = .ok (.ireturn, 1) := by decide +kernel
theorem d_Md_play_12 : decode prog_8_method_36_code 12 = .ok (.aload_n 0, 1) := by decide +kernel
theorem d_Md_play_13 : decode prog_8_method_36_code 13 = .ok (.invokevirtual 97, 3) := by decide +kernel
theorem d_Md_play_16 : decode prog_8_method_36_code 16 = .ok (.iconst 0, 1) := by decide +kernel
theorem d_Md_play_17 : decode prog_8_method_36_code 17 = .ok (.istore_n 3, 1) := by decide +kernel
theorem d_Md_play_18 : decode prog_8_method_36_code 18 = .ok (.iconst 1, 1) := by decide +kernel
theorem d_Md_play_19 : decode prog_8_method_36_code 19 = .ok (.istore 4, 2) := by decide +kernel
theorem d_Md_play_21 : decode prog_8_method_36_code 21 = .ok (.iload_n 3, 1) := by decide +kernel
theorem d_Md_play_22 : decode prog_8_method_36_code 22 = .ok (.bipush 15, 2) := by decide +kernel
theorem d_Md_play_24 : decode prog_8_method_36_code 24 = .ok (.if_icmp .ge 147, 3) := by decide +kernel
theorem d_Md_play_27 : decode prog_8_method_36_code 27 = .ok (.iload 4, 2) := by decide +kernel
theorem d_Md_play_29 : decode prog_8_method_36_code 29 = .ok (.ifCond .le 142, 3) := by decide +kernel
theorem d_Md_play_32 : decode prog_8_method_36_code 32 = .ok (.aload_n 0, 1) := by decide +kernel
theorem d_Md_play_33 : decode prog_8_method_36_code 33 = .ok (.invokevirtual 107, 3) := by decide +kernel
theorem d_Md_play_36 : decode prog_8_method_36_code 36 = .ok (.ifCond .ne 135, 3) := by decide +kernel
theorem d_Md_play_39 : decode prog_8_method_36_code 39 = .ok (.iconst 0, 1) := by decide +kernel
theorem d_Md_play_40 : decode prog_8_method_36_code 40 = .ok (.istore 4, 2) := by decide +kernel
theorem d_Md_play_42 : decode prog_8_method_36_code 42 = .ok (.iconst 0, 1) := by decide +kernel
theorem d_Md_play_43 : decode prog_8_method_36_code 43 = .ok (.istore 5, 2) := by decide +kernel
theorem d_Md_play_45 : decode prog_8_method_36_code 45 = .ok (.iload 5, 2) := by decide +kernel
theorem d_Md_play_47 : decode prog_8_method_36_code 47 = .ok (.bipush 7, 2) := by decide +kernel
theorem d_Md_play_49 : decode prog_8_method_36_code 49 = .ok (.if_icmp .ge 29, 3) := by decide +kernel
theorem d_Md_play_52 : decode prog_8_method_36_code 52 = .ok (.iload 4, 2) := by decide +kernel
theorem d_Md_play_54 : decode prog_8_method_36_code 54 = .ok (.aload_n 0, 1) := by decide +kernel
theorem d_Md_play_55 : decode prog_8_method_36_code 55 = .ok (.iconst 0, 1) := by decide +kernel
theorem d_Md_play_56 : decode prog_8_method_36_code 56 = .ok (.iload 5, 2) := by decide +kernel
theorem d_Md_play_58 : decode prog_8_method_36_code 58 = .ok (.invokevirtual 100, 3) := by decide +kernel
theorem d_Md_play_61 : decode prog_8_method_36_code 61 = .ok (.ifCond .eq 7, 3) := by decide +kernel
theorem d_Md_play_64 : decode prog_8_method_36_code 64 = .ok (.iconst 1, 1) := by decide +kernel
theorem d_Md_play_65 : decode prog_8_method_36_code 65 = .ok (.goto 4, 3) := by decide +kernel
theorem d_Md_play_68 : decode prog_8_method_36_code 68 = .ok (.iconst 0, 1) := by decide +kernel
theorem d_Md_play_69 : decode prog_8_method_36_code 69 = .ok (.iadd, 1) := by decide +kernel
theorem d_Md_play_70 : decode prog_8_method_36_code 70 = .ok (.istore 4, 2) := by decide +kernel
theorem d_Md_play_72 : decode prog_8_method_36_code 72 = .ok (.iinc 5 1, 3) := by decide +kernel
theorem d_Md_play_75 : decode prog_8_method_36_code 75 = .ok (.goto (-30), 3) := by decide +kernel
theorem d_Md_play_78 : decode prog_8_method_36_code 78 = .ok (.iload 4, 2) := by decide +kernel
theorem d_Md_play_80 : decode prog_8_method_36_code 80 = .ok (.ifCond .le (-59), 3) := by decide +kernel
theorem d_Md_play_83 : decode prog_8_method_36_code 83 = .ok (.lload_n 1, 1) := by decide +kernel
theorem d_Md_play_84 : decode prog_8_method_36_code 84 = .ok (.iconst 3, 1) := by decide +kernel
theorem d_Md_play_85 : decode prog_8_method_36_code 85 = .ok (.iload_n 3, 1) := by decide +kernel
theorem d_Md_play_86 : decode prog_8_method_36_code 86 = .ok (.imul, 1) := by decide +kernel
theorem d_Md_play_87 : decode prog_8_method_36_code 87 = .ok (.lshr, 1) := by decide +kernel
theorem d_Md_play_88 : decode prog_8_method_36_code 88 = .ok (.ldc2_w 135, 3) := by decide +kernel
theorem d_Md_play_91 : decode prog_8_method_36_code 91 = .ok (.land, 1) := by decide +kernel
theorem d_Md_play_92 : decode prog_8_method_36_code 92 = .ok (.l2i, 1) := by decide +kernel
theorem d_Md_play_93 : decode prog_8_method_36_code 93 = .ok (.iload 4, 2) := by decide +kernel
theorem d_Md_play_95 : decode prog_8_method_36_code 95 = .ok (.irem, 1) := by decide +kernel
theorem d_Md_play_96 : decode prog_8_method_36_code 96 = .ok (.istore 5, 2) := by decide +kernel
theorem d_Md_play_98 : decode prog_8_method_36_code 98 = .ok (.iconst 0, 1) := by decide +kernel
theorem d_Md_play_99 : decode prog_8_method_36_code 99 = .ok (.istore 6, 2) := by decide +kernel
theorem d_Md_play_101 : decode prog_8_method_36_code 101 = .ok (.aload_n 0, 1) := by decide +kernel
theorem d_Md_play_102 : decode prog_8_method_36_code 102 = .ok (.iconst 0, 1) := by decide +kernel
theorem d_Md_play_103 : decode prog_8_method_36_code 103 = .ok (.iload 6, 2) := by decide +kernel
theorem d_Md_play_105 : decode prog_8_method_36_code 105 = .ok (.invokevirtual 100, 3) := by decide +kernel
theorem d_Md_play_108 : decode prog_8_method_36_code 108 = .ok (.ifCond .eq 8, 3) := by decide +kernel
theorem d_Md_play_111 : decode prog_8_method_36_code 111 = .ok (.iload 5, 2) := by decide +kernel
theorem d_Md_play_113 : decode prog_8_method_36_code 113 = .ok (.ifCond .le 29, 3) := by decide +kernel
theorem d_Md_play_116 : decode prog_8_method_36_code 116 = .ok (.iload 5, 2) := by decide +kernel
theorem d_Md_play_118 : decode prog_8_method_36_code 118 = .ok (.aload_n 0, 1) := by decide +kernel
theorem d_Md_play_119 : decode prog_8_method_36_code 119 = .ok (.iconst 0, 1) := by decide +kernel
theorem d_Md_play_120 : decode prog_8_method_36_code 120 = .ok (.iload 6, 2) := by decide +kernel
theorem d_Md_play_122 : decode prog_8_method_36_code 122 = .ok (.invokevirtual 100, 3) := by decide +kernel
theorem d_Md_play_125 : decode prog_8_method_36_code 125 = .ok (.ifCond .eq 7, 3) := by decide +kernel
theorem d_Md_play_128 : decode prog_8_method_36_code 128 = .ok (.iconst 1, 1) := by decide +kernel
theorem d_Md_play_129 : decode prog_8_method_36_code 129 = .ok (.goto 4, 3) := by decide +kernel
theorem d_Md_play_132 : decode prog_8_method_36_code 132 = .ok (.iconst 0, 1) := by decide +kernel
theorem d_Md_play_133 : decode prog_8_method_36_code 133 = .ok (.isub, 1) := by decide +kernel
theorem d_Md_play_134 : decode prog_8_method_36_code 134 = .ok (.istore 5, 2) := by decide +kernel
theorem d_Md_play_136 : decode prog_8_method_36_code 136 = .ok (.iinc 6 1, 3) := by decide +kernel
theorem d_Md_play_139 : decode prog_8_method_36_code 139 = .ok (.goto (-38), 3) := by decide +kernel
theorem d_Md_play_142 : decode prog_8_method_36_code 142 = .ok (.aload_n 0, 1) := by decide +kernel
theorem d_Md_play_143 : decode prog_8_method_36_code 143 = .ok (.iconst 0, 1) := by decide +kernel
theorem d_Md_play_144 : decode prog_8_method_36_code 144 = .ok (.iload 6, 2) := by decide +kernel
theorem d_Md_play_146 : decode prog_8_method_36_code 146 = .ok (.invokevirtual 103, 3) := by decide +kernel
theorem d_Md_play_149 : decode prog_8_method_36_code 149 = .ok (.aload_n 0, 1) := by decide +kernel
theorem d_Md_play_150 : decode prog_8_method_36_code 150 = .ok (.getfield 13, 3) := by decide +kernel
theorem d_Md_play_153 : decode prog_8_method_36_code 153 = .ok (.bipush 15, 2) := by decide +kernel
theorem d_Md_play_155 : decode prog_8_method_36_code 155 = .ok (.aload_n 0, 1) := by decide +kernel
theorem d_Md_play_156 : decode prog_8_method_36_code 156 = .ok (.getfield 58, 3) := by decide +kernel
theorem d_Md_play_159 : decode prog_8_method_36_code 159 = .ok (.imul, 1) := by decide +kernel
theorem d_Md_play_160 : decode prog_8_method_36_code 160 = .ok (.iload_n 3, 1) := by decide +kernel
theorem d_Md_play_161 : decode prog_8_method_36_code 161 = .ok (.iadd, 1) := by decide +kernel
theorem d_Md_play_162 : decode prog_8_method_36_code 162 = .ok (.iload 6, 2) := by decide +kernel
theorem d_Md_play_164 : decode prog_8_method_36_code 164 = .ok (.iastore, 1) := by decide +kernel
theorem d_Md_play_165 : decode prog_8_method_36_code 165 = .ok (.iinc 3 1, 3) := by decide +kernel
theorem d_Md_play_168 : decode prog_8_method_36_code 168 = .ok (.goto (-147), 3) := by decide +kernel
theorem d_Md_play_171 : decode prog_8_method_36_code 171 = .ok (.aload_n 0, 1) := by decide +kernel
theorem d_Md_play_172 : decode prog_8_method_36_code 172 = .ok (.invokevirtual 107, 3) := by decide +kernel
theorem d_Md_play_175 : decode prog_8_method_36_code 175 = .ok (.ifCond .ne 5, 3) := by decide +kernel
theorem d_Md_play_178 : decode prog_8_method_36_code 178 = .ok (.iconst (-1), 1) := by decide +kernel
theorem d_Md_play_179 : decode prog_8_method_36_code 179 = .ok (.ireturn, 1) := by decide +kernel
theorem d_Md_play_180 : decode prog_8_method_36_code 180 = .ok (.aload_n 0, 1) := by decide +kernel
theorem d_Md_play_181 : decode prog_8_method_36_code 181 = .ok (.getfield 7, 3) := by decide +kernel
theorem d_Md_play_184 : decode prog_8_method_36_code 184 = .ok (.aload_n 0, 1) := by decide +kernel
theorem d_Md_play_185 : decode prog_8_method_36_code 185 = .ok (.getfield 58, 3) := by decide +kernel
theorem d_Md_play_188 : decode prog_8_method_36_code 188 = .ok (.iload_n 3, 1) := by decide +kernel
theorem d_Md_play_189 : decode prog_8_method_36_code 189 = .ok (.iastore, 1) := by decide +kernel
theorem d_Md_play_190 : decode prog_8_method_36_code 190 = .ok (.aload_n 0, 1) := by decide +kernel
theorem d_Md_play_191 : decode prog_8_method_36_code 191 = .ok (.dup, 1) := by decide +kernel
theorem d_Md_play_192 : decode prog_8_method_36_code 192 = .ok (.getfield 58, 3) := by decide +kernel
theorem d_Md_play_195 : decode prog_8_method_36_code 195 = .ok (.iconst 1, 1) := by decide +kernel
theorem d_Md_play_196 : decode prog_8_method_36_code 196 = .ok (.iadd, 1) := by decide +kernel
theorem d_Md_play_197 : decode prog_8_method_36_code 197 = .ok (.putfield 58, 3) := by decide +kernel
theorem d_Md_play_200 : decode prog_8_method_36_code 200 = .ok (.aload_n 0, 1) := by decide +kernel
theorem d_Md_play_201 : decode prog_8_method_36_code 201 = .ok (.getfield 58, 3) := by decide +kernel
theorem d_Md_play_204 : decode prog_8_method_36_code 204 = .ok (.iconst 1, 1) := by decide +kernel
theorem d_Md_play_205 : decode prog_8_method_36_code 205 = .ok (.isub, 1) := by decide +kernel
theorem d_Md_play_206 : decode prog_8_method_36_code 206 = .ok (.ireturn, 1) := by decide +kernel
set_option maxRecDepth 20000 in
set_option maxHeartbeats 4000000 in
theorem cD_playF (E : fk_E) (b0 : Nat) (b1 : Nat) (b2 : Nat) (b3 : Nat) (b4 : Nat) (b5 : Nat) (b6 : Nat) (b7 : Nat) (b8 : Nat) (b9 : Nat) (b10 : Nat) (b11 : Nat) (b12 : Nat) (b13 : Nat) (b14 : Nat) (b15 : Nat) (mt : Nat) (mf : Nat) (my : Nat) (mw : Bool) (len : Nat → Nat) (ev : Nat → Nat) (mc : Nat → Nat) (mi : Nat → Nat) (mu : Nat → Nat) (mfi : Nat → Nat) (mla : Nat → Nat) (mac : Nat → Nat) (tk : Nat → Nat) (tp : Nat) (ht : mt = 20) : fk_C E fy_Md_play prog_8_method_36_code 7 (some .int) 3 0 0 [.ref b0, .long (lN tp)] [(b0, .inr (6, [.int (nI mt), .ref b1, .ref b2, .ref b3, .ref b4, .ref b5, .ref b6, .ref b7, .ref b8, .ref b9, .int (nI mf), .ref b10, .ref b11, .ref b12, .int (nI my), .int (nI (Bool.toNat mw)), .ref b13, .ref b14, .ref b15])), fk_ai E b1 20 len, fk_ai E b2 300 ev, fk_ai E b3 2 mc, fk_ai E b4 28 mi, fk_ai E b5 28 mu, fk_ai E b6 2 mfi, fk_ai E b7 2 mla, fk_ai E b8 2 mac, fk_ai E b12 16 tk] (S := Unit) (fun _ => some (.int (-2))) (fun _ => True) (fun _ => [(b0, .inr (6, [.int (nI mt), .ref b1, .ref b2, .ref b3, .ref b4, .ref b5, .ref b6, .ref b7, .ref b8, .ref b9, .int (nI mf), .ref b10, .ref b11, .ref b12, .int (nI my), .int (nI (Bool.toNat mw)), .ref b13, .ref b14, .ref b15])), fk_ai E b1 20 len, fk_ai E b2 300 ev, fk_ai E b3 2 mc, fk_ai E b4 28 mi, fk_ai E b5 28 mu, fk_ai E b6 2 mfi, fk_ai E b7 2 mla, fk_ai E b8 2 mac, fk_ai E b12 16 tk]) := by
  refine fk_enterI (v := fun _ => (-2)) (by decide) (Nat.le_of_ble_eq_true rfl) (lv0 := [(0, .ref b0), (1, .long (lN tp))]) rfl ?_
  intro K hini hret
  refine fk_aload_n 0 d_Md_play_0 rfl ?_
  refine fk_get 0 0 rfl rfl fh_Md (Nat.le_of_ble_eq_true rfl) fw_507 rfl d_Md_play_1 ?_
  refine fk_bipush (v := nI 20) d_Md_play_4 (by decide +kernel) ?_
  refine fk_icmp_ne (a := mt) (b := 20) (by omega) (by omega) d_Md_play_6 rfl (fun h6t => ?_) (fun h6f => ?_)
  · exact absurd ht h6t
  · refine fk_bipush (v := -2) d_Md_play_9 (by decide +kernel) ?_
    exact hret (0, 0) _ 11 _ () d_Md_play_11 (trivial) (rfl)
set_option maxRecDepth 20000 in
set_option maxHeartbeats 4000000 in
theorem cD_playB (E : fk_E) (b0 : Nat) (b1 : Nat) (b2 : Nat) (b3 : Nat) (b4 : Nat) (b5 : Nat) (b6 : Nat) (b7 : Nat) (b8 : Nat) (b9 : Nat) (b10 : Nat) (b11 : Nat) (b12 : Nat) (b13 : Nat) (b14 : Nat) (b15 : Nat) (mt : Nat) (mf : Nat) (my : Nat) (mw : Bool) (len : Nat → Nat) (ev : Nat → Nat) (mc : Nat → Nat) (mi : Nat → Nat) (mu : Nat → Nat) (mfi : Nat → Nat) (mla : Nat → Nat) (mac : Nat → Nat) (tk : Nat → Nat) (tp : Nat) (hN : fr_N mc mi mu mfi mla) (hm1 : mac 1 < 128) (htp : tp < 2 ^ 64) (ht : mt < 20) (hw : (fp_run (fr_O mc mu mfi 0) (fr_I mc mi mla 0) (fr_me mc mi mu mfi mla mac 0) tp 16).1 ≠ 16) : fk_C E fy_Md_play prog_8_method_36_code 7 (some .int) 3 0 0 [.ref b0, .long (lN tp)] [(b0, .inr (6, [.int (nI mt), .ref b1, .ref b2, .ref b3, .ref b4, .ref b5, .ref b6, .ref b7, .ref b8, .ref b9, .int (nI mf), .ref b10, .ref b11, .ref b12, .int (nI my), .int (nI (Bool.toNat mw)), .ref b13, .ref b14, .ref b15])), fk_ai E b1 20 len, fk_ai E b2 300 ev, fk_ai E b3 2 mc, fk_ai E b4 28 mi, fk_ai E b5 28 mu, fk_ai E b6 2 mfi, fk_ai E b7 2 mla, fk_ai E b8 2 mac, fk_ai E b12 16 tk] (S := (Nat → Nat) × (Nat → Nat)) (fun (u : (Nat → Nat) × (Nat → Nat)) => some (.int (nI 0 - 1))) (fun (u : (Nat → Nat) × (Nat → Nat)) => ∀ k, k < 15 * mt → u.1 k = ev k) (fun (u : (Nat → Nat) × (Nat → Nat)) => [(b0, .inr (6, [.int (nI mt), .ref b1, .ref b2, .ref b3, .ref b4, .ref b5, .ref b6, .ref b7, .ref b8, .ref b9, .int (nI mf), .ref b10, .ref b11, .ref b12, .int (nI my), .int (nI (Bool.toNat mw)), .ref b13, .ref b14, .ref b15])), fk_ai E b1 20 len, fk_ai E b2 300 u.1, fk_ai E b3 2 mc, fk_ai E b4 28 mi, fk_ai E b5 28 mu, fk_ai E b6 2 mfi, fk_ai E b7 2 mla, fk_ai E b8 2 mac, fk_ai E b12 16 u.2]) := by
  refine fk_enterI (v := fun (u : (Nat → Nat) × (Nat → Nat)) => (nI 0 - 1)) (by decide) (Nat.le_of_ble_eq_true rfl) (lv0 := [(0, .ref b0), (1, .long (lN tp))]) rfl ?_
  intro K hini hret
  refine fk_aload_n 0 d_Md_play_0 rfl ?_
  refine fk_get 0 0 rfl rfl fh_Md (Nat.le_of_ble_eq_true rfl) fw_507 rfl d_Md_play_1 ?_
  refine fk_bipush (v := nI 20) d_Md_play_4 (by decide +kernel) ?_
  refine fk_icmp_ne (a := mt) (b := 20) (by omega) (by omega) d_Md_play_6 rfl (fun h6t => ?_) (fun h6f => ?_)
  · refine fk_aload_n 0 d_Md_play_12 rfl ?_
    refine fk_callV (q0 := 0) (As := []) (rest := []) (is := [0, 9]) (ir := [1, 2, 3, 4, 5, 6, 7, 8]) (ip := [8, 0, 1, 2, 3, 4, 5, 6, 7, 9]) (wc := [(b0, .inr (6, [.int (nI mt), .ref b1, .ref b2, .ref b3, .ref b4, .ref b5, .ref b6, .ref b7, .ref b8, .ref b9, .int (nI mf), .ref b10, .ref b11, .ref b12, .int (nI my), .int (nI (Bool.toNat mw)), .ref b13, .ref b14, .ref b15])), fk_ai E b12 16 tk]) (wr := [fk_ai E b1 20 len, fk_ai E b2 300 ev, fk_ai E b3 2 mc, fk_ai E b4 28 mi, fk_ai E b5 28 mu, fk_ai E b6 2 mfi, fk_ai E b7 2 mla, fk_ai E b8 2 mac]) (w2 := fun u => [(b0, .inr (6, [.int (nI mt), .ref b1, .ref b2, .ref b3, .ref b4, .ref b5, .ref b6, .ref b7, .ref b8, .ref b9, .int (nI mf), .ref b10, .ref b11, .ref b12, .int (nI my), .int (nI (Bool.toNat mw)), .ref b13, .ref b14, .ref b15])), fk_ai E b1 20 len, fk_ai E b2 300 ev, fk_ai E b3 2 mc, fk_ai E b4 28 mi, fk_ai E b5 28 mu, fk_ai E b6 2 mfi, fk_ai E b7 2 mla, fk_ai E b8 2 mac, fk_ai E b12 16 u]) (cD_initial E b0 b1 b2 b3 b4 b5 b6 b7 b8 b9 b10 b11 b12 b13 b14 b15 mt mf my mw tk ) d_Md_play_13 fz_Md_initial fw_642 rfl rfl fw_644 fw_p19 ⟨Nat.le_of_ble_eq_true rfl, Nat.le_of_ble_eq_true rfl⟩ rfl (Nat.le_of_ble_eq_true rfl) ⟨Nat.zero_le _, Nat.zero_le _⟩ ⟨rfl, rfl, rfl, rfl, by decide, fun _ => rfl, rfl⟩ (fun u hu13 => ?_)
    obtain ⟨tk9_13, rfl⟩ : ∃ z, z = u := ⟨_, rfl⟩
    have hq13 : fr_T tk9_13 1 := hu13
    show fk_V E _ K (0, 0) [(b0, .inr (6, [.int (nI mt), .ref b1, .ref b2, .ref b3, .ref b4, .ref b5, .ref b6, .ref b7, .ref b8, .ref b9, .int (nI mf), .ref b10, .ref b11, .ref b12, .int (nI my), .int (nI (Bool.toNat mw)), .ref b13, .ref b14, .ref b15])), fk_ai E b1 20 len, fk_ai E b2 300 ev, fk_ai E b3 2 mc, fk_ai E b4 28 mi, fk_ai E b5 28 mu, fk_ai E b6 2 mfi, fk_ai E b7 2 mla, fk_ai E b8 2 mac, fk_ai E b12 16 tk9_13] 16 [(0, .ref b0), (1, .long (lN tp))] []
    refine fk_iconst (v := nI 0) d_Md_play_16 (by decide +kernel) ?_
    refine fk_istore_n (lv' := [(0, .ref b0), (1, .long (lN tp)), (3, .int (nI 0))]) d_Md_play_17 rfl (Nat.le_of_ble_eq_true rfl) [1, 2, 0] rfl ?_
    refine fk_iconst (v := nI 1) d_Md_play_18 (by decide +kernel) ?_
    refine fk_istore (lv' := [(0, .ref b0), (1, .long (lN tp)), (3, .int (nI 0)), (4, .int (nI 1))]) d_Md_play_19 (Nat.le_of_ble_eq_true rfl) [1, 2, 3, 0] rfl ?_
    have L21 : ∀ (fuel : Nat) (n : Nat) (ab : Nat) (x : Nat) (t1 : Nat → Nat) (e1 : Nat → Nat), (n ≤ 15) → (fp_R (fr_O mc mu mfi 0) (fr_I mc mi mla 0) (fr_me mc mi mu mfi mla mac 0) tp n x (fun z => e1 (15 * mt + z))) → (fr_T t1 x) → (fp_bd x n) → (ab = 0 → (fs_ens (fr_O mc mu mfi 0) (fr_me mc mi mu mfi mla mac 0) x) = 0 ∧ x ≠ 16 ∧ n < 15) → (ab ≤ 7) → (∀ k, k < 15 * mt → e1 k = ev k) → (∀ z, z < n → e1 (15 * mt + z) < 7) → 2 * (15 - n) + (if 0 < ab then 1 else 0) < fuel → fk_V E (prog_8_method_36_code, fy_Md_play.cls, 7, fk_rm 3 0 0) K (0, 0) [(b0, .inr (6, [.int (nI mt), .ref b1, .ref b2, .ref b3, .ref b4, .ref b5, .ref b6, .ref b7, .ref b8, .ref b9, .int (nI mf), .ref b10, .ref b11, .ref b12, .int (nI my), .int (nI (Bool.toNat mw)), .ref b13, .ref b14, .ref b15])), fk_ai E b1 20 len, fk_ai E b2 300 e1, fk_ai E b3 2 mc, fk_ai E b4 28 mi, fk_ai E b5 28 mu, fk_ai E b6 2 mfi, fk_ai E b7 2 mla, fk_ai E b8 2 mac, fk_ai E b12 16 t1] 21 [(0, .ref b0), (1, .long (lN tp)), (3, .int (nI n)), (4, .int (nI ab))] [] := by
      intro fuel
      induction fuel with
      | zero => intro n ab x t1 e1 _ _ _ _ _ _ _ _ hm; exact absurd hm (Nat.not_lt_zero _)
      | succ fuel ih =>
        intro n ab x t1 e1 h1 h2 h3 h4 h5 h5b h6 h7 hm21
        have ih21 := ih
        clear ih
        refine fk_iload_n 2 d_Md_play_21 rfl ?_
        refine fk_bipush (v := nI 15) d_Md_play_22 (by decide +kernel) ?_
        refine fk_icmp_ge (a := n) (b := 15) (by omega) (by omega) d_Md_play_24 rfl (fun h24t => ?_) (fun h24f => ?_)
        · refine fk_aload_n 0 d_Md_play_171 rfl ?_
          refine fk_callV (q0 := 0) (As := []) (rest := []) (is := [0, 9]) (ir := [1, 2, 3, 4, 5, 6, 7, 8]) (ip := [8, 0, 1, 2, 3, 4, 5, 6, 7, 9]) (wc := [(b0, .inr (6, [.int (nI mt), .ref b1, .ref b2, .ref b3, .ref b4, .ref b5, .ref b6, .ref b7, .ref b8, .ref b9, .int (nI mf), .ref b10, .ref b11, .ref b12, .int (nI my), .int (nI (Bool.toNat mw)), .ref b13, .ref b14, .ref b15])), fk_ai E b12 16 t1]) (wr := [fk_ai E b1 20 len, fk_ai E b2 300 e1, fk_ai E b3 2 mc, fk_ai E b4 28 mi, fk_ai E b5 28 mu, fk_ai E b6 2 mfi, fk_ai E b7 2 mla, fk_ai E b8 2 mac]) (w2 := fun _ => [(b0, .inr (6, [.int (nI mt), .ref b1, .ref b2, .ref b3, .ref b4, .ref b5, .ref b6, .ref b7, .ref b8, .ref b9, .int (nI mf), .ref b10, .ref b11, .ref b12, .int (nI my), .int (nI (Bool.toNat mw)), .ref b13, .ref b14, .ref b15])), fk_ai E b1 20 len, fk_ai E b2 300 e1, fk_ai E b3 2 mc, fk_ai E b4 28 mi, fk_ai E b5 28 mu, fk_ai E b6 2 mfi, fk_ai E b7 2 mla, fk_ai E b8 2 mac, fk_ai E b12 16 t1]) (cD_isFinal E b0 b1 b2 b3 b4 b5 b6 b7 b8 b9 b10 b11 b12 b13 b14 b15 mt mf my mw t1 x h3 h4.1) d_Md_play_172 fz_Md_isFinal fw_666 rfl rfl fw_668 fw_p25 ⟨Nat.le_of_ble_eq_true rfl, Nat.le_of_ble_eq_true rfl⟩ rfl (Nat.le_of_ble_eq_true rfl) ⟨Nat.zero_le _, Nat.zero_le _⟩ ⟨rfl, rfl, rfl, rfl, by decide, fun _ => rfl, rfl⟩ (fun u hu172 => ?_)
          show fk_V E _ K (0, 0) [(b0, .inr (6, [.int (nI mt), .ref b1, .ref b2, .ref b3, .ref b4, .ref b5, .ref b6, .ref b7, .ref b8, .ref b9, .int (nI mf), .ref b10, .ref b11, .ref b12, .int (nI my), .int (nI (Bool.toNat mw)), .ref b13, .ref b14, .ref b15])), fk_ai E b1 20 len, fk_ai E b2 300 e1, fk_ai E b3 2 mc, fk_ai E b4 28 mi, fk_ai E b5 28 mu, fk_ai E b6 2 mfi, fk_ai E b7 2 mla, fk_ai E b8 2 mac, fk_ai E b12 16 t1] 175 [(0, .ref b0), (1, .long (lN tp)), (3, .int (nI n)), (4, .int (nI ab))] [.int (nI (Bool.toNat (decide (x = 16))))]
          refine fk_if_neB (b := (decide (x = 16))) d_Md_play_175 rfl (fun h175t => ?_) (fun h175f => ?_)
          · first | exact absurd (of_decide_eq_true h175t) (h5 h29t).2.1 | (have w := fp_R_end h2 h1 (Or.inl h24t); exact absurd (w.1.trans (of_decide_eq_true h175t)) hw) | (have w := fp_R_end h2 h1 (Or.inr (of_decide_eq_true h36t)); exact absurd (w.1.trans (of_decide_eq_true h175t)) hw)
          · refine fk_iconst (v := nI 0 - 1) d_Md_play_178 (by decide +kernel) ?_
            have hpp : ∀ k, k < 15 * mt → e1 k = ev k := h6
            exact hret (0, 0) _ 179 _ (e1, t1) d_Md_play_179 (hpp) (rfl)
        · refine fk_iload 3 d_Md_play_27 rfl ?_
          refine fk_if_le (a := ab) (by omega) d_Md_play_29 rfl (fun h29t => ?_) (fun h29f => ?_)
          · refine fk_aload_n 0 d_Md_play_171 rfl ?_
            refine fk_callV (q0 := 0) (As := []) (rest := []) (is := [0, 9]) (ir := [1, 2, 3, 4, 5, 6, 7, 8]) (ip := [8, 0, 1, 2, 3, 4, 5, 6, 7, 9]) (wc := [(b0, .inr (6, [.int (nI mt), .ref b1, .ref b2, .ref b3, .ref b4, .ref b5, .ref b6, .ref b7, .ref b8, .ref b9, .int (nI mf), .ref b10, .ref b11, .ref b12, .int (nI my), .int (nI (Bool.toNat mw)), .ref b13, .ref b14, .ref b15])), fk_ai E b12 16 t1]) (wr := [fk_ai E b1 20 len, fk_ai E b2 300 e1, fk_ai E b3 2 mc, fk_ai E b4 28 mi, fk_ai E b5 28 mu, fk_ai E b6 2 mfi, fk_ai E b7 2 mla, fk_ai E b8 2 mac]) (w2 := fun _ => [(b0, .inr (6, [.int (nI mt), .ref b1, .ref b2, .ref b3, .ref b4, .ref b5, .ref b6, .ref b7, .ref b8, .ref b9, .int (nI mf), .ref b10, .ref b11, .ref b12, .int (nI my), .int (nI (Bool.toNat mw)), .ref b13, .ref b14, .ref b15])), fk_ai E b1 20 len, fk_ai E b2 300 e1, fk_ai E b3 2 mc, fk_ai E b4 28 mi, fk_ai E b5 28 mu, fk_ai E b6 2 mfi, fk_ai E b7 2 mla, fk_ai E b8 2 mac, fk_ai E b12 16 t1]) (cD_isFinal E b0 b1 b2 b3 b4 b5 b6 b7 b8 b9 b10 b11 b12 b13 b14 b15 mt mf my mw t1 x h3 h4.1) d_Md_play_172 fz_Md_isFinal fw_666 rfl rfl fw_668 fw_p25 ⟨Nat.le_of_ble_eq_true rfl, Nat.le_of_ble_eq_true rfl⟩ rfl (Nat.le_of_ble_eq_true rfl) ⟨Nat.zero_le _, Nat.zero_le _⟩ ⟨rfl, rfl, rfl, rfl, by decide, fun _ => rfl, rfl⟩ (fun u hu172 => ?_)
            show fk_V E _ K (0, 0) [(b0, .inr (6, [.int (nI mt), .ref b1, .ref b2, .ref b3, .ref b4, .ref b5, .ref b6, .ref b7, .ref b8, .ref b9, .int (nI mf), .ref b10, .ref b11, .ref b12, .int (nI my), .int (nI (Bool.toNat mw)), .ref b13, .ref b14, .ref b15])), fk_ai E b1 20 len, fk_ai E b2 300 e1, fk_ai E b3 2 mc, fk_ai E b4 28 mi, fk_ai E b5 28 mu, fk_ai E b6 2 mfi, fk_ai E b7 2 mla, fk_ai E b8 2 mac, fk_ai E b12 16 t1] 175 [(0, .ref b0), (1, .long (lN tp)), (3, .int (nI n)), (4, .int (nI ab))] [.int (nI (Bool.toNat (decide (x = 16))))]
            refine fk_if_neB (b := (decide (x = 16))) d_Md_play_175 rfl (fun h175t => ?_) (fun h175f => ?_)
            · first | exact absurd (of_decide_eq_true h175t) (h5 h29t).2.1 | (have w := fp_R_end h2 h1 (Or.inl h24t); exact absurd (w.1.trans (of_decide_eq_true h175t)) hw) | (have w := fp_R_end h2 h1 (Or.inr (of_decide_eq_true h36t)); exact absurd (w.1.trans (of_decide_eq_true h175t)) hw)
            · refine fk_iconst (v := nI 0 - 1) d_Md_play_178 (by decide +kernel) ?_
              have hpp : ∀ k, k < 15 * mt → e1 k = ev k := h6
              exact hret (0, 0) _ 179 _ (e1, t1) d_Md_play_179 (hpp) (rfl)
          · refine fk_aload_n 0 d_Md_play_32 rfl ?_
            refine fk_callV (q0 := 0) (As := []) (rest := []) (is := [0, 9]) (ir := [1, 2, 3, 4, 5, 6, 7, 8]) (ip := [8, 0, 1, 2, 3, 4, 5, 6, 7, 9]) (wc := [(b0, .inr (6, [.int (nI mt), .ref b1, .ref b2, .ref b3, .ref b4, .ref b5, .ref b6, .ref b7, .ref b8, .ref b9, .int (nI mf), .ref b10, .ref b11, .ref b12, .int (nI my), .int (nI (Bool.toNat mw)), .ref b13, .ref b14, .ref b15])), fk_ai E b12 16 t1]) (wr := [fk_ai E b1 20 len, fk_ai E b2 300 e1, fk_ai E b3 2 mc, fk_ai E b4 28 mi, fk_ai E b5 28 mu, fk_ai E b6 2 mfi, fk_ai E b7 2 mla, fk_ai E b8 2 mac]) (w2 := fun _ => [(b0, .inr (6, [.int (nI mt), .ref b1, .ref b2, .ref b3, .ref b4, .ref b5, .ref b6, .ref b7, .ref b8, .ref b9, .int (nI mf), .ref b10, .ref b11, .ref b12, .int (nI my), .int (nI (Bool.toNat mw)), .ref b13, .ref b14, .ref b15])), fk_ai E b1 20 len, fk_ai E b2 300 e1, fk_ai E b3 2 mc, fk_ai E b4 28 mi, fk_ai E b5 28 mu, fk_ai E b6 2 mfi, fk_ai E b7 2 mla, fk_ai E b8 2 mac, fk_ai E b12 16 t1]) (cD_isFinal E b0 b1 b2 b3 b4 b5 b6 b7 b8 b9 b10 b11 b12 b13 b14 b15 mt mf my mw t1 x h3 h4.1) d_Md_play_33 fz_Md_isFinal fw_666 rfl rfl fw_668 fw_p25 ⟨Nat.le_of_ble_eq_true rfl, Nat.le_of_ble_eq_true rfl⟩ rfl (Nat.le_of_ble_eq_true rfl) ⟨Nat.zero_le _, Nat.zero_le _⟩ ⟨rfl, rfl, rfl, rfl, by decide, fun _ => rfl, rfl⟩ (fun u hu33 => ?_)
            show fk_V E _ K (0, 0) [(b0, .inr (6, [.int (nI mt), .ref b1, .ref b2, .ref b3, .ref b4, .ref b5, .ref b6, .ref b7, .ref b8, .ref b9, .int (nI mf), .ref b10, .ref b11, .ref b12, .int (nI my), .int (nI (Bool.toNat mw)), .ref b13, .ref b14, .ref b15])), fk_ai E b1 20 len, fk_ai E b2 300 e1, fk_ai E b3 2 mc, fk_ai E b4 28 mi, fk_ai E b5 28 mu, fk_ai E b6 2 mfi, fk_ai E b7 2 mla, fk_ai E b8 2 mac, fk_ai E b12 16 t1] 36 [(0, .ref b0), (1, .long (lN tp)), (3, .int (nI n)), (4, .int (nI ab))] [.int (nI (Bool.toNat (decide (x = 16))))]
            refine fk_if_neB (b := (decide (x = 16))) d_Md_play_36 rfl (fun h36t => ?_) (fun h36f => ?_)
            · refine fk_aload_n 0 d_Md_play_171 rfl ?_
              refine fk_callV (q0 := 0) (As := []) (rest := []) (is := [0, 9]) (ir := [1, 2, 3, 4, 5, 6, 7, 8]) (ip := [8, 0, 1, 2, 3, 4, 5, 6, 7, 9]) (wc := [(b0, .inr (6, [.int (nI mt), .ref b1, .ref b2, .ref b3, .ref b4, .ref b5, .ref b6, .ref b7, .ref b8, .ref b9, .int (nI mf), .ref b10, .ref b11, .ref b12, .int (nI my), .int (nI (Bool.toNat mw)), .ref b13, .ref b14, .ref b15])), fk_ai E b12 16 t1]) (wr := [fk_ai E b1 20 len, fk_ai E b2 300 e1, fk_ai E b3 2 mc, fk_ai E b4 28 mi, fk_ai E b5 28 mu, fk_ai E b6 2 mfi, fk_ai E b7 2 mla, fk_ai E b8 2 mac]) (w2 := fun _ => [(b0, .inr (6, [.int (nI mt), .ref b1, .ref b2, .ref b3, .ref b4, .ref b5, .ref b6, .ref b7, .ref b8, .ref b9, .int (nI mf), .ref b10, .ref b11, .ref b12, .int (nI my), .int (nI (Bool.toNat mw)), .ref b13, .ref b14, .ref b15])), fk_ai E b1 20 len, fk_ai E b2 300 e1, fk_ai E b3 2 mc, fk_ai E b4 28 mi, fk_ai E b5 28 mu, fk_ai E b6 2 mfi, fk_ai E b7 2 mla, fk_ai E b8 2 mac, fk_ai E b12 16 t1]) (cD_isFinal E b0 b1 b2 b3 b4 b5 b6 b7 b8 b9 b10 b11 b12 b13 b14 b15 mt mf my mw t1 x h3 h4.1) d_Md_play_172 fz_Md_isFinal fw_666 rfl rfl fw_668 fw_p25 ⟨Nat.le_of_ble_eq_true rfl, Nat.le_of_ble_eq_true rfl⟩ rfl (Nat.le_of_ble_eq_true rfl) ⟨Nat.zero_le _, Nat.zero_le _⟩ ⟨rfl, rfl, rfl, rfl, by decide, fun _ => rfl, rfl⟩ (fun u hu172 => ?_)
              show fk_V E _ K (0, 0) [(b0, .inr (6, [.int (nI mt), .ref b1, .ref b2, .ref b3, .ref b4, .ref b5, .ref b6, .ref b7, .ref b8, .ref b9, .int (nI mf), .ref b10, .ref b11, .ref b12, .int (nI my), .int (nI (Bool.toNat mw)), .ref b13, .ref b14, .ref b15])), fk_ai E b1 20 len, fk_ai E b2 300 e1, fk_ai E b3 2 mc, fk_ai E b4 28 mi, fk_ai E b5 28 mu, fk_ai E b6 2 mfi, fk_ai E b7 2 mla, fk_ai E b8 2 mac, fk_ai E b12 16 t1] 175 [(0, .ref b0), (1, .long (lN tp)), (3, .int (nI n)), (4, .int (nI ab))] [.int (nI (Bool.toNat (decide (x = 16))))]
              refine fk_if_neB (b := (decide (x = 16))) d_Md_play_175 rfl (fun h175t => ?_) (fun h175f => ?_)
              · first | exact absurd (of_decide_eq_true h175t) (h5 h29t).2.1 | (have w := fp_R_end h2 h1 (Or.inl h24t); exact absurd (w.1.trans (of_decide_eq_true h175t)) hw) | (have w := fp_R_end h2 h1 (Or.inr (of_decide_eq_true h36t)); exact absurd (w.1.trans (of_decide_eq_true h175t)) hw)
              · refine fk_iconst (v := nI 0 - 1) d_Md_play_178 (by decide +kernel) ?_
                have hpp : ∀ k, k < 15 * mt → e1 k = ev k := h6
                exact hret (0, 0) _ 179 _ (e1, t1) d_Md_play_179 (hpp) (rfl)
            · refine fk_iconst (v := nI 0) d_Md_play_39 (by decide +kernel) ?_
              refine fk_istore (lv' := [(0, .ref b0), (1, .long (lN tp)), (3, .int (nI n)), (4, .int (nI 0))]) d_Md_play_40 (Nat.le_of_ble_eq_true rfl) [1, 2, 3, 0] rfl ?_
              refine fk_iconst (v := nI 0) d_Md_play_42 (by decide +kernel) ?_
              refine fk_istore (lv' := [(0, .ref b0), (1, .long (lN tp)), (3, .int (nI n)), (4, .int (nI 0)), (5, .int (nI 0))]) d_Md_play_43 (Nat.le_of_ble_eq_true rfl) [1, 2, 3, 4, 0] rfl ?_
              have L45 : ∀ (fuel : Nat) (ab1 : Nat) (a : Nat), (a ≤ 7) → (ab1 = fs_bc (fs_ens (fr_O mc mu mfi 0) (fr_me mc mi mu mfi mla mac 0) x) a) → 7 - a < fuel → fk_V E (prog_8_method_36_code, fy_Md_play.cls, 7, fk_rm 3 0 0) K (0, 0) [(b0, .inr (6, [.int (nI mt), .ref b1, .ref b2, .ref b3, .ref b4, .ref b5, .ref b6, .ref b7, .ref b8, .ref b9, .int (nI mf), .ref b10, .ref b11, .ref b12, .int (nI my), .int (nI (Bool.toNat mw)), .ref b13, .ref b14, .ref b15])), fk_ai E b1 20 len, fk_ai E b2 300 e1, fk_ai E b3 2 mc, fk_ai E b4 28 mi, fk_ai E b5 28 mu, fk_ai E b6 2 mfi, fk_ai E b7 2 mla, fk_ai E b8 2 mac, fk_ai E b12 16 t1] 45 [(0, .ref b0), (1, .long (lN tp)), (3, .int (nI n)), (4, .int (nI ab1)), (5, .int (nI a))] [] := by
                intro fuel
                induction fuel with
                | zero => intro ab1 a _ _ hm; exact absurd hm (Nat.not_lt_zero _)
                | succ fuel ih =>
                  intro ab1 a h8 h9 hm45
                  have ih45 := ih
                  clear ih
                  have g1 := fs_bc_le (fs_ens (fr_O mc mu mfi 0) (fr_me mc mi mu mfi mla mac 0) x) a
                  refine fk_iload 4 d_Md_play_45 rfl ?_
                  refine fk_bipush (v := nI 7) d_Md_play_47 (by decide +kernel) ?_
                  refine fk_icmp_ge (a := a) (b := 7) (by omega) (by omega) d_Md_play_49 rfl (fun h49t => ?_) (fun h49f => ?_)
                  · have g2 : a = 7 := by omega
                    have g3 : ab1 = fs_bc (fs_ens (fr_O mc mu mfi 0) (fr_me mc mi mu mfi mla mac 0) x) 7 := by rw [h9, g2]
                    refine fk_iload 3 d_Md_play_78 rfl ?_
                    refine fk_if_le (a := ab1) (by omega) d_Md_play_80 rfl (fun h80t => ?_) (fun h80f => ?_)
                    · refine fk_lv (lv' := [(0, .ref b0), (1, .long (lN tp)), (3, .int (nI n)), (4, .int (nI ab1))]) [0, 1, 2, 3] rfl ?_
                      refine ih21 _ _ x _ _ ?_ ?_ ?_ ?_ ?_ ?_ ?_ ?_ ?_
                      · first | omega | assumption | exact Nat.zero_le _
                      · exact h2
                      · exact h3
                      · exact h4
                      · exact fun _ => ⟨fs_bc_zero _ (fs_ens_lt _ _ _) (by rw [← g3]; exact h80t), of_decide_eq_false h36f, h24f⟩
                      · first | omega | assumption | exact Nat.zero_le _
                      · exact h6
                      · exact h7
                      · rw [if_pos h29f] at hm21
                        rw [h80t, if_neg (by decide)]
                        omega
                    · have g6 := fs_ens_lt (fr_O mc mu mfi 0) (fr_me mc mi mu mfi mla mac 0) x
                      have g5 : (fs_ens (fr_O mc mu mfi 0) (fr_me mc mi mu mfi mla mac 0) x) ≠ 0 := fun w => by rw [w] at g3; rw [g3] at h80f; exact absurd h80f (by decide)
                      have g7 := fs_bc_lt (fs_ens (fr_O mc mu mfi 0) (fr_me mc mi mu mfi mla mac 0) x) g6
                      have g11 : ∀ a, fp_bt (fs_ens (fr_O mc mu mfi 0) (fr_me mc mi mu mfi mla mac 0) x) (7 - a) a ≤ 7 := fun a => fp_bt_le _ _ _ (by omega)
                      refine fk_lload_n 1 d_Md_play_83 rfl ?_
                      refine fk_iconst (v := nI 3) d_Md_play_84 (by decide +kernel) ?_
                      refine fk_iload_n 2 d_Md_play_85 rfl ?_
                      refine fk_imul (a := 3) (b := n) d_Md_play_86 ?_
                      refine fk_lshr d_Md_play_87 rfl ?_
                      refine fk_ldc2 (v := (7 : Int64)) d_Md_play_88 fw_706 ?_
                      refine fk_topl (show (7 : Int64) = lN 7 by decide +kernel) ?_
                      refine fk_landR d_Md_play_91 ?_
                      refine fk_topl (show ((lN tp >>> ((nI (3 * n)).toInt64 &&& 63)) &&& (lN 7)) = (lN (tp / 2 ^ (3 * n) % 8)) from fn_sar htp (by omega)) ?_
                      refine fk_l2i d_Md_play_92 (lN_i (tp / 2 ^ (3 * n) % 8)) ?_
                      refine fk_iload 3 d_Md_play_93 rfl ?_
                      refine fk_irem (a := (tp / 2 ^ (3 * n) % 8)) (b := ab1) d_Md_play_95 (by have := Nat.mod_lt (tp / 2 ^ (3 * n)) (show 0 < 8 by decide); omega) (by omega) (by omega) ?_
                      refine fk_istore (lv' := [(0, .ref b0), (1, .long (lN tp)), (3, .int (nI n)), (4, .int (nI ab1)), (5, .int (nI ((tp / 2 ^ (3 * n) % 8) % ab1)))]) d_Md_play_96 (Nat.le_of_ble_eq_true rfl) [1, 2, 3, 4, 0] rfl ?_
                      refine fk_iconst (v := nI 0) d_Md_play_98 (by decide +kernel) ?_
                      refine fk_istore (lv' := [(0, .ref b0), (1, .long (lN tp)), (3, .int (nI n)), (4, .int (nI ab1)), (5, .int (nI ((tp / 2 ^ (3 * n) % 8) % ab1))), (6, .int (nI 0))]) d_Md_play_99 (Nat.le_of_ble_eq_true rfl) [1, 2, 3, 4, 5, 0] rfl ?_
                      have L101 : ∀ (fuel : Nat) (l : Nat) (a2 : Nat), (fp_ch (fr_O mc mu mfi 0) (fr_me mc mi mu mfi mla mac 0) tp x n = fp_pk (fs_ens (fr_O mc mu mfi 0) (fr_me mc mi mu mfi mla mac 0) x) (7 - a2) a2 l) → (l < fp_bt (fs_ens (fr_O mc mu mfi 0) (fr_me mc mi mu mfi mla mac 0) x) (7 - a2) a2) → 7 - a2 < fuel → fk_V E (prog_8_method_36_code, fy_Md_play.cls, 7, fk_rm 3 0 0) K (0, 0) [(b0, .inr (6, [.int (nI mt), .ref b1, .ref b2, .ref b3, .ref b4, .ref b5, .ref b6, .ref b7, .ref b8, .ref b9, .int (nI mf), .ref b10, .ref b11, .ref b12, .int (nI my), .int (nI (Bool.toNat mw)), .ref b13, .ref b14, .ref b15])), fk_ai E b1 20 len, fk_ai E b2 300 e1, fk_ai E b3 2 mc, fk_ai E b4 28 mi, fk_ai E b5 28 mu, fk_ai E b6 2 mfi, fk_ai E b7 2 mla, fk_ai E b8 2 mac, fk_ai E b12 16 t1] 101 [(0, .ref b0), (1, .long (lN tp)), (3, .int (nI n)), (4, .int (nI ab1)), (5, .int (nI l)), (6, .int (nI a2))] [] := by
                        intro fuel
                        induction fuel with
                        | zero => intro l a2 _ _ hm; exact absurd hm (Nat.not_lt_zero _)
                        | succ fuel ih =>
                          intro l a2 h10 h11 hm101
                          have ih101 := ih
                          clear ih
                          have g8 := fp_bt_pos h11
                          have g10 : l < 8 := by
                            have w1 := fs_bc_lt (fs_ens (fr_O mc mu mfi 0) (fr_me mc mi mu mfi mla mac 0) x) g6
                            have w2 := fs_bc_le (fs_ens (fr_O mc mu mfi 0) (fr_me mc mi mu mfi mla mac 0) x) 7
                            have w3 : fp_bt (fs_ens (fr_O mc mu mfi 0) (fr_me mc mi mu mfi mla mac 0) x) (7 - a2) a2 ≤ 7 := g11 a2
                            omega
                          refine fk_aload_n 0 d_Md_play_101 rfl ?_
                          have L116 : (fs_en (fr_O mc mu mfi 0) (fr_me mc mi mu mfi mla mac 0) x a2 = true → 0 < l) → fk_V E (prog_8_method_36_code, fy_Md_play.cls, 7, fk_rm 3 0 0) K (0, 0) [(b0, .inr (6, [.int (nI mt), .ref b1, .ref b2, .ref b3, .ref b4, .ref b5, .ref b6, .ref b7, .ref b8, .ref b9, .int (nI mf), .ref b10, .ref b11, .ref b12, .int (nI my), .int (nI (Bool.toNat mw)), .ref b13, .ref b14, .ref b15])), fk_ai E b1 20 len, fk_ai E b2 300 e1, fk_ai E b3 2 mc, fk_ai E b4 28 mi, fk_ai E b5 28 mu, fk_ai E b6 2 mfi, fk_ai E b7 2 mla, fk_ai E b8 2 mac, fk_ai E b12 16 t1] 116 [(0, .ref b0), (1, .long (lN tp)), (3, .int (nI n)), (4, .int (nI ab1)), (5, .int (nI l)), (6, .int (nI a2))] [] := by
                            intro j2
                            refine fk_iload 4 d_Md_play_116 rfl ?_
                            have L133 : ∀ (v2 : Nat), (v2 = Bool.toNat (fs_en (fr_O mc mu mfi 0) (fr_me mc mi mu mfi mla mac 0) x a2)) → fk_V E (prog_8_method_36_code, fy_Md_play.cls, 7, fk_rm 3 0 0) K (0, 0) [(b0, .inr (6, [.int (nI mt), .ref b1, .ref b2, .ref b3, .ref b4, .ref b5, .ref b6, .ref b7, .ref b8, .ref b9, .int (nI mf), .ref b10, .ref b11, .ref b12, .int (nI my), .int (nI (Bool.toNat mw)), .ref b13, .ref b14, .ref b15])), fk_ai E b1 20 len, fk_ai E b2 300 e1, fk_ai E b3 2 mc, fk_ai E b4 28 mi, fk_ai E b5 28 mu, fk_ai E b6 2 mfi, fk_ai E b7 2 mla, fk_ai E b8 2 mac, fk_ai E b12 16 t1] 133 [(0, .ref b0), (1, .long (lN tp)), (3, .int (nI n)), (4, .int (nI ab1)), (5, .int (nI l)), (6, .int (nI a2))] [.int (nI v2), .int (nI l)] := by
                              intro v2 j3
                              refine fk_isub (a := l) (b := v2) d_Md_play_133 (by rw [j3]; cases w : fs_en (fr_O mc mu mfi 0) (fr_me mc mi mu mfi mla mac 0) x a2 with | false => exact Nat.zero_le _ | true => exact j2 w) ?_
                              refine fk_istore (lv' := [(0, .ref b0), (1, .long (lN tp)), (3, .int (nI n)), (4, .int (nI ab1)), (5, .int (nI (l - v2))), (6, .int (nI a2))]) d_Md_play_134 (Nat.le_of_ble_eq_true rfl) [1, 2, 3, 4, 0, 5] rfl ?_
                              refine fk_iinc (j := 5) (lv' := [(0, .ref b0), (1, .long (lN tp)), (3, .int (nI n)), (4, .int (nI ab1)), (5, .int (nI (l - v2))), (6, .int (nI (a2 + 1)))]) (a2 + 1) d_Md_play_136 rfl (nI_1 a2) (Nat.le_of_ble_eq_true rfl) [1, 2, 3, 4, 5, 0] rfl ?_
                              refine fk_goto d_Md_play_139 rfl ?_
                              refine ih101 _ _ ?_ ?_ ?_
                              · have w := fp_pk_go g8 h10 h11 (by rw [fe_en_bit g8]; exact j2)
                                rw [j3, ← fe_en_bit g8]
                                exact w.1
                              · have w := fp_pk_go g8 h10 h11 (by rw [fe_en_bit g8]; exact j2)
                                rw [j3, ← fe_en_bit g8]
                                exact w.2
                              · omega
                            refine fk_aload_n 0 d_Md_play_118 rfl ?_
                            refine fk_iconst (v := nI 0) d_Md_play_119 (by decide +kernel) ?_
                            refine fk_iload 5 d_Md_play_120 rfl ?_
                            refine fk_callV (q0 := 0) (As := [.int (nI 0), .int (nI a2)]) (rest := [.int (nI l)]) (is := [0, 3, 4, 5, 6, 7, 8, 9]) (ir := [1, 2]) (ip := [2, 0, 1, 3, 4, 5, 6, 7, 8, 9]) (wc := [(b0, .inr (6, [.int (nI mt), .ref b1, .ref b2, .ref b3, .ref b4, .ref b5, .ref b6, .ref b7, .ref b8, .ref b9, .int (nI mf), .ref b10, .ref b11, .ref b12, .int (nI my), .int (nI (Bool.toNat mw)), .ref b13, .ref b14, .ref b15])), fk_ai E b3 2 mc, fk_ai E b4 28 mi, fk_ai E b5 28 mu, fk_ai E b6 2 mfi, fk_ai E b7 2 mla, fk_ai E b8 2 mac, fk_ai E b12 16 t1]) (wr := [fk_ai E b1 20 len, fk_ai E b2 300 e1]) (w2 := fun _ => [(b0, .inr (6, [.int (nI mt), .ref b1, .ref b2, .ref b3, .ref b4, .ref b5, .ref b6, .ref b7, .ref b8, .ref b9, .int (nI mf), .ref b10, .ref b11, .ref b12, .int (nI my), .int (nI (Bool.toNat mw)), .ref b13, .ref b14, .ref b15])), fk_ai E b1 20 len, fk_ai E b2 300 e1, fk_ai E b3 2 mc, fk_ai E b4 28 mi, fk_ai E b5 28 mu, fk_ai E b6 2 mfi, fk_ai E b7 2 mla, fk_ai E b8 2 mac, fk_ai E b12 16 t1]) (cD_enabled E b0 b1 b2 b3 b4 b5 b6 b7 b8 b9 b10 b11 b12 b13 b14 b15 mt mf my mw mc mi mu mfi mla mac t1 0 a2 x (by first | omega | assumption) (by first | omega | assumption) (by first | omega | assumption) (by first | omega | assumption) h3) d_Md_play_122 fz_Md_enabled fw_646 rfl rfl fw_648 fw_p20 ⟨Nat.le_of_ble_eq_true rfl, Nat.le_of_ble_eq_true rfl⟩ rfl (Nat.le_of_ble_eq_true rfl) ⟨Nat.zero_le _, Nat.zero_le _⟩ ⟨rfl, rfl, rfl, rfl, by decide, fun _ => rfl, rfl⟩ (fun u hu122 => ?_)
                            show fk_V E _ K (0, 0) [(b0, .inr (6, [.int (nI mt), .ref b1, .ref b2, .ref b3, .ref b4, .ref b5, .ref b6, .ref b7, .ref b8, .ref b9, .int (nI mf), .ref b10, .ref b11, .ref b12, .int (nI my), .int (nI (Bool.toNat mw)), .ref b13, .ref b14, .ref b15])), fk_ai E b1 20 len, fk_ai E b2 300 e1, fk_ai E b3 2 mc, fk_ai E b4 28 mi, fk_ai E b5 28 mu, fk_ai E b6 2 mfi, fk_ai E b7 2 mla, fk_ai E b8 2 mac, fk_ai E b12 16 t1] 125 [(0, .ref b0), (1, .long (lN tp)), (3, .int (nI n)), (4, .int (nI ab1)), (5, .int (nI l)), (6, .int (nI a2))] [.int (nI (Bool.toNat (fs_en (fr_O mc mu mfi 0) (fr_me mc mi mu mfi mla mac 0) x a2))), .int (nI l)]
                            refine fk_if_eqB (b := (fs_en (fr_O mc mu mfi 0) (fr_me mc mi mu mfi mla mac 0) x a2)) d_Md_play_125 rfl (fun h125t => ?_) (fun h125f => ?_)
                            · refine fk_iconst (v := nI 0) d_Md_play_132 (by decide +kernel) ?_
                              refine L133 _ ?_
                              · first | (rw [h125t]; rfl) | (rw [h125f]; rfl)
                            · refine fk_iconst (v := nI 1) d_Md_play_128 (by decide +kernel) ?_
                              refine fk_goto d_Md_play_129 rfl ?_
                              refine L133 _ ?_
                              · first | (rw [h125t]; rfl) | (rw [h125f]; rfl)
                          refine fk_iconst (v := nI 0) d_Md_play_102 (by decide +kernel) ?_
                          refine fk_iload 5 d_Md_play_103 rfl ?_
                          refine fk_callV (q0 := 0) (As := [.int (nI 0), .int (nI a2)]) (rest := []) (is := [0, 3, 4, 5, 6, 7, 8, 9]) (ir := [1, 2]) (ip := [2, 0, 1, 3, 4, 5, 6, 7, 8, 9]) (wc := [(b0, .inr (6, [.int (nI mt), .ref b1, .ref b2, .ref b3, .ref b4, .ref b5, .ref b6, .ref b7, .ref b8, .ref b9, .int (nI mf), .ref b10, .ref b11, .ref b12, .int (nI my), .int (nI (Bool.toNat mw)), .ref b13, .ref b14, .ref b15])), fk_ai E b3 2 mc, fk_ai E b4 28 mi, fk_ai E b5 28 mu, fk_ai E b6 2 mfi, fk_ai E b7 2 mla, fk_ai E b8 2 mac, fk_ai E b12 16 t1]) (wr := [fk_ai E b1 20 len, fk_ai E b2 300 e1]) (w2 := fun _ => [(b0, .inr (6, [.int (nI mt), .ref b1, .ref b2, .ref b3, .ref b4, .ref b5, .ref b6, .ref b7, .ref b8, .ref b9, .int (nI mf), .ref b10, .ref b11, .ref b12, .int (nI my), .int (nI (Bool.toNat mw)), .ref b13, .ref b14, .ref b15])), fk_ai E b1 20 len, fk_ai E b2 300 e1, fk_ai E b3 2 mc, fk_ai E b4 28 mi, fk_ai E b5 28 mu, fk_ai E b6 2 mfi, fk_ai E b7 2 mla, fk_ai E b8 2 mac, fk_ai E b12 16 t1]) (cD_enabled E b0 b1 b2 b3 b4 b5 b6 b7 b8 b9 b10 b11 b12 b13 b14 b15 mt mf my mw mc mi mu mfi mla mac t1 0 a2 x (by first | omega | assumption) (by first | omega | assumption) (by first | omega | assumption) (by first | omega | assumption) h3) d_Md_play_105 fz_Md_enabled fw_646 rfl rfl fw_648 fw_p20 ⟨Nat.le_of_ble_eq_true rfl, Nat.le_of_ble_eq_true rfl⟩ rfl (Nat.le_of_ble_eq_true rfl) ⟨Nat.zero_le _, Nat.zero_le _⟩ ⟨rfl, rfl, rfl, rfl, by decide, fun _ => rfl, rfl⟩ (fun u hu105 => ?_)
                          show fk_V E _ K (0, 0) [(b0, .inr (6, [.int (nI mt), .ref b1, .ref b2, .ref b3, .ref b4, .ref b5, .ref b6, .ref b7, .ref b8, .ref b9, .int (nI mf), .ref b10, .ref b11, .ref b12, .int (nI my), .int (nI (Bool.toNat mw)), .ref b13, .ref b14, .ref b15])), fk_ai E b1 20 len, fk_ai E b2 300 e1, fk_ai E b3 2 mc, fk_ai E b4 28 mi, fk_ai E b5 28 mu, fk_ai E b6 2 mfi, fk_ai E b7 2 mla, fk_ai E b8 2 mac, fk_ai E b12 16 t1] 108 [(0, .ref b0), (1, .long (lN tp)), (3, .int (nI n)), (4, .int (nI ab1)), (5, .int (nI l)), (6, .int (nI a2))] [.int (nI (Bool.toNat (fs_en (fr_O mc mu mfi 0) (fr_me mc mi mu mfi mla mac 0) x a2)))]
                          refine fk_if_eqB (b := (fs_en (fr_O mc mu mfi 0) (fr_me mc mi mu mfi mla mac 0) x a2)) d_Md_play_108 rfl (fun h108t => ?_) (fun h108f => ?_)
                          · refine L116  ?_
                            · first | (intro w; rw [h108t] at w; exact absurd w (by decide)) | exact fun _ => h113f
                          · refine fk_iload 4 d_Md_play_111 rfl ?_
                            refine fk_if_le (a := l) (by omega) d_Md_play_113 rfl (fun h113t => ?_) (fun h113f => ?_)
                            · have g9 : a2 = fp_ch (fr_O mc mu mfi 0) (fr_me mc mi mu mfi mla mac 0) tp x n := fp_pk_at g8 (by rw [h113t] at h10; exact h10) (by rw [fe_en_bit g8]; exact h108f)
                              refine fk_aload_n 0 d_Md_play_142 rfl ?_
                              refine fk_iconst (v := nI 0) d_Md_play_143 (by decide +kernel) ?_
                              refine fk_iload 5 d_Md_play_144 rfl ?_
                              refine fk_callV (q0 := 0) (As := [.int (nI 0), .int (nI a2)]) (rest := []) (is := [0, 3, 4, 5, 6, 7, 9]) (ir := [1, 2, 8]) (ip := [3, 0, 1, 4, 5, 6, 7, 8, 2, 9]) (wc := [(b0, .inr (6, [.int (nI mt), .ref b1, .ref b2, .ref b3, .ref b4, .ref b5, .ref b6, .ref b7, .ref b8, .ref b9, .int (nI mf), .ref b10, .ref b11, .ref b12, .int (nI my), .int (nI (Bool.toNat mw)), .ref b13, .ref b14, .ref b15])), fk_ai E b3 2 mc, fk_ai E b4 28 mi, fk_ai E b5 28 mu, fk_ai E b6 2 mfi, fk_ai E b7 2 mla, fk_ai E b12 16 t1]) (wr := [fk_ai E b1 20 len, fk_ai E b2 300 e1, fk_ai E b8 2 mac]) (w2 := fun u => [(b0, .inr (6, [.int (nI mt), .ref b1, .ref b2, .ref b3, .ref b4, .ref b5, .ref b6, .ref b7, .ref b8, .ref b9, .int (nI mf), .ref b10, .ref b11, .ref b12, .int (nI my), .int (nI (Bool.toNat mw)), .ref b13, .ref b14, .ref b15])), fk_ai E b1 20 len, fk_ai E b2 300 e1, fk_ai E b3 2 mc, fk_ai E b4 28 mi, fk_ai E b5 28 mu, fk_ai E b6 2 mfi, fk_ai E b7 2 mla, fk_ai E b8 2 mac, fk_ai E b12 16 u]) (cD_fire E b0 b1 b2 b3 b4 b5 b6 b7 b8 b9 b10 b11 b12 b13 b14 b15 mt mf my mw mc mi mu mfi mla mac t1 0 a2 x (by first | omega | assumption) (by first | omega | assumption) (by first | omega | assumption) h3 (fs_en_can h108f)) d_Md_play_146 fz_Md_fire fw_658 rfl rfl fw_660 fw_p23 ⟨Nat.le_of_ble_eq_true rfl, Nat.le_of_ble_eq_true rfl⟩ rfl (Nat.le_of_ble_eq_true rfl) ⟨Nat.zero_le _, Nat.zero_le _⟩ ⟨rfl, rfl, rfl, rfl, by decide, fun _ => rfl, rfl⟩ (fun u hu146 => ?_)
                              obtain ⟨tk9_146, rfl⟩ : ∃ z, z = u := ⟨_, rfl⟩
                              have hq146 : ∀ z, z < 16 → tk9_146 z = fm_dg x (fr_cp z) - Bool.toNat (fs_tak (fr_O mc mu mfi 0) a2 (fr_cp z)) + Bool.toNat (fs_tak (fr_I mc mi mla 0) a2 (fr_cp z)) := hu146
                              show fk_V E _ K (0, 0) [(b0, .inr (6, [.int (nI mt), .ref b1, .ref b2, .ref b3, .ref b4, .ref b5, .ref b6, .ref b7, .ref b8, .ref b9, .int (nI mf), .ref b10, .ref b11, .ref b12, .int (nI my), .int (nI (Bool.toNat mw)), .ref b13, .ref b14, .ref b15])), fk_ai E b1 20 len, fk_ai E b2 300 e1, fk_ai E b3 2 mc, fk_ai E b4 28 mi, fk_ai E b5 28 mu, fk_ai E b6 2 mfi, fk_ai E b7 2 mla, fk_ai E b8 2 mac, fk_ai E b12 16 tk9_146] 149 [(0, .ref b0), (1, .long (lN tp)), (3, .int (nI n)), (4, .int (nI ab1)), (5, .int (nI l)), (6, .int (nI a2))] []
                              refine fk_aload_n 0 d_Md_play_149 rfl ?_
                              refine fk_get 0 2 rfl rfl fh_Md (Nat.le_of_ble_eq_true rfl) fw_509 rfl d_Md_play_150 ?_
                              refine fk_bipush (v := nI 15) d_Md_play_153 (by decide +kernel) ?_
                              refine fk_aload_n 0 d_Md_play_155 rfl ?_
                              refine fk_get 0 0 rfl rfl fh_Md (Nat.le_of_ble_eq_true rfl) fw_507 rfl d_Md_play_156 ?_
                              refine fk_imul (a := 15) (b := mt) d_Md_play_159 ?_
                              refine fk_iload_n 2 d_Md_play_160 rfl ?_
                              refine fk_iadd (a := (15 * mt)) (b := n) d_Md_play_161 ?_
                              refine fk_iload 5 d_Md_play_162 rfl ?_
                              refine fk_st_ai (i := ((15 * mt) + n)) (x := a2) (w' := [(b0, .inr (6, [.int (nI mt), .ref b1, .ref b2, .ref b3, .ref b4, .ref b5, .ref b6, .ref b7, .ref b8, .ref b9, .int (nI mf), .ref b10, .ref b11, .ref b12, .int (nI my), .int (nI (Bool.toNat mw)), .ref b13, .ref b14, .ref b15])), fk_ai E b1 20 len, fk_ai E b2 300 (va_up e1 ((15 * mt) + n) a2), fk_ai E b3 2 mc, fk_ai E b4 28 mi, fk_ai E b5 28 mu, fk_ai E b6 2 mfi, fk_ai E b7 2 mla, fk_ai E b8 2 mac, fk_ai E b12 16 tk9_146]) 2 rfl (by omega) (by decide) d_Md_play_164 rfl ?_
                              refine fk_iinc (j := 2) (lv' := [(0, .ref b0), (1, .long (lN tp)), (3, .int (nI (n + 1))), (4, .int (nI ab1)), (5, .int (nI l)), (6, .int (nI a2))]) (n + 1) d_Md_play_165 rfl (nI_1 n) (Nat.le_of_ble_eq_true rfl) [1, 2, 0, 3, 4, 5] rfl ?_
                              refine fk_goto d_Md_play_168 rfl ?_
                              refine fk_lv (lv' := [(0, .ref b0), (1, .long (lN tp)), (3, .int (nI (n + 1))), (4, .int (nI ab1))]) [0, 1, 2, 3] rfl ?_
                              refine ih21 _ _ (fs_fire (fr_O mc mu mfi 0) (fr_I mc mi mla 0) x a2) _ _ ?_ ?_ ?_ ?_ ?_ ?_ ?_ ?_ ?_
                              · first | omega | assumption | exact Nat.zero_le _
                              · have w := fp_R_s h2 h24f (of_decide_eq_false h36f) g5
                                rw [g9]
                                obtain ⟨f, w1, w2⟩ := w
                                refine ⟨f, w1, fun z hz => ?_⟩
                                have w3 := w2 z hz
                                rw [← w3]
                                show va_up e1 (15 * mt + n) _ (15 * mt + z) = va_up (fun z => e1 (15 * mt + z)) n _ z
                                by_cases w4 : z = n
                                · rw [w4, va_up_self, va_up_self]
                                · rw [va_up_ne _ _ (by omega), va_up_ne _ _ w4]
                              · exact fr_T_fire (fr_I0 _ _ _ _) h4 h24f hq146
                              · exact (fp_fire (fr_I0 _ _ _ _) h4 h24f).1
                              · exact fun w => absurd w (by omega)
                              · first | omega | assumption | exact Nat.zero_le _
                              · intro k hk
                                rw [va_up_ne _ _ (by omega)]
                                exact h6 k hk
                              · intro z hz
                                rcases Nat.lt_or_ge z n with w | w
                                · rw [va_up_ne _ _ (by omega)]; exact h7 z w
                                · rw [show z = n by omega, va_up_self]; exact g8
                              · rw [if_pos h29f] at hm21
                                rw [if_pos (show 0 < ab1 by omega)]
                                omega
                            · refine L116  ?_
                              · first | (intro w; rw [h108t] at w; exact absurd w (by decide)) | exact fun _ => h113f
                      refine L101 _ _ _ ?_ ?_ (Nat.lt_succ_self _)
                      · rw [g3]
                        rfl
                      · show _ < fp_bt (fs_ens (fr_O mc mu mfi 0) (fr_me mc mi mu mfi mla mac 0) x) 7 0
                        rw [fp_bt_bc _ g6, ← g3]
                        exact Nat.mod_lt _ h80f
                  · have L69 : ∀ (v : Nat), (v = Bool.toNat (fs_en (fr_O mc mu mfi 0) (fr_me mc mi mu mfi mla mac 0) x a)) → fk_V E (prog_8_method_36_code, fy_Md_play.cls, 7, fk_rm 3 0 0) K (0, 0) [(b0, .inr (6, [.int (nI mt), .ref b1, .ref b2, .ref b3, .ref b4, .ref b5, .ref b6, .ref b7, .ref b8, .ref b9, .int (nI mf), .ref b10, .ref b11, .ref b12, .int (nI my), .int (nI (Bool.toNat mw)), .ref b13, .ref b14, .ref b15])), fk_ai E b1 20 len, fk_ai E b2 300 e1, fk_ai E b3 2 mc, fk_ai E b4 28 mi, fk_ai E b5 28 mu, fk_ai E b6 2 mfi, fk_ai E b7 2 mla, fk_ai E b8 2 mac, fk_ai E b12 16 t1] 69 [(0, .ref b0), (1, .long (lN tp)), (3, .int (nI n)), (4, .int (nI ab1)), (5, .int (nI a))] [.int (nI v), .int (nI ab1)] := by
                      intro v j1
                      refine fk_iadd (a := ab1) (b := v) d_Md_play_69 ?_
                      refine fk_istore (lv' := [(0, .ref b0), (1, .long (lN tp)), (3, .int (nI n)), (4, .int (nI (ab1 + v))), (5, .int (nI a))]) d_Md_play_70 (Nat.le_of_ble_eq_true rfl) [1, 2, 3, 0, 4] rfl ?_
                      refine fk_iinc (j := 4) (lv' := [(0, .ref b0), (1, .long (lN tp)), (3, .int (nI n)), (4, .int (nI (ab1 + v))), (5, .int (nI (a + 1)))]) (a + 1) d_Md_play_72 rfl (nI_1 a) (Nat.le_of_ble_eq_true rfl) [1, 2, 3, 4, 0] rfl ?_
                      refine fk_goto d_Md_play_75 rfl ?_
                      refine ih45 _ _ ?_ ?_ ?_
                      · first | omega | assumption | exact Nat.zero_le _
                      · rw [j1, h9, fs_bc_s, fe_en_bit h49f]
                      · omega
                    refine fk_iload 3 d_Md_play_52 rfl ?_
                    refine fk_aload_n 0 d_Md_play_54 rfl ?_
                    refine fk_iconst (v := nI 0) d_Md_play_55 (by decide +kernel) ?_
                    refine fk_iload 4 d_Md_play_56 rfl ?_
                    refine fk_callV (q0 := 0) (As := [.int (nI 0), .int (nI a)]) (rest := [.int (nI ab1)]) (is := [0, 3, 4, 5, 6, 7, 8, 9]) (ir := [1, 2]) (ip := [2, 0, 1, 3, 4, 5, 6, 7, 8, 9]) (wc := [(b0, .inr (6, [.int (nI mt), .ref b1, .ref b2, .ref b3, .ref b4, .ref b5, .ref b6, .ref b7, .ref b8, .ref b9, .int (nI mf), .ref b10, .ref b11, .ref b12, .int (nI my), .int (nI (Bool.toNat mw)), .ref b13, .ref b14, .ref b15])), fk_ai E b3 2 mc, fk_ai E b4 28 mi, fk_ai E b5 28 mu, fk_ai E b6 2 mfi, fk_ai E b7 2 mla, fk_ai E b8 2 mac, fk_ai E b12 16 t1]) (wr := [fk_ai E b1 20 len, fk_ai E b2 300 e1]) (w2 := fun _ => [(b0, .inr (6, [.int (nI mt), .ref b1, .ref b2, .ref b3, .ref b4, .ref b5, .ref b6, .ref b7, .ref b8, .ref b9, .int (nI mf), .ref b10, .ref b11, .ref b12, .int (nI my), .int (nI (Bool.toNat mw)), .ref b13, .ref b14, .ref b15])), fk_ai E b1 20 len, fk_ai E b2 300 e1, fk_ai E b3 2 mc, fk_ai E b4 28 mi, fk_ai E b5 28 mu, fk_ai E b6 2 mfi, fk_ai E b7 2 mla, fk_ai E b8 2 mac, fk_ai E b12 16 t1]) (cD_enabled E b0 b1 b2 b3 b4 b5 b6 b7 b8 b9 b10 b11 b12 b13 b14 b15 mt mf my mw mc mi mu mfi mla mac t1 0 a x (by first | omega | assumption) (by first | omega | assumption) (by first | omega | assumption) (by first | omega | assumption) h3) d_Md_play_58 fz_Md_enabled fw_646 rfl rfl fw_648 fw_p20 ⟨Nat.le_of_ble_eq_true rfl, Nat.le_of_ble_eq_true rfl⟩ rfl (Nat.le_of_ble_eq_true rfl) ⟨Nat.zero_le _, Nat.zero_le _⟩ ⟨rfl, rfl, rfl, rfl, by decide, fun _ => rfl, rfl⟩ (fun u hu58 => ?_)
                    show fk_V E _ K (0, 0) [(b0, .inr (6, [.int (nI mt), .ref b1, .ref b2, .ref b3, .ref b4, .ref b5, .ref b6, .ref b7, .ref b8, .ref b9, .int (nI mf), .ref b10, .ref b11, .ref b12, .int (nI my), .int (nI (Bool.toNat mw)), .ref b13, .ref b14, .ref b15])), fk_ai E b1 20 len, fk_ai E b2 300 e1, fk_ai E b3 2 mc, fk_ai E b4 28 mi, fk_ai E b5 28 mu, fk_ai E b6 2 mfi, fk_ai E b7 2 mla, fk_ai E b8 2 mac, fk_ai E b12 16 t1] 61 [(0, .ref b0), (1, .long (lN tp)), (3, .int (nI n)), (4, .int (nI ab1)), (5, .int (nI a))] [.int (nI (Bool.toNat (fs_en (fr_O mc mu mfi 0) (fr_me mc mi mu mfi mla mac 0) x a))), .int (nI ab1)]
                    refine fk_if_eqB (b := (fs_en (fr_O mc mu mfi 0) (fr_me mc mi mu mfi mla mac 0) x a)) d_Md_play_61 rfl (fun h61t => ?_) (fun h61f => ?_)
                    · refine fk_iconst (v := nI 0) d_Md_play_68 (by decide +kernel) ?_
                      refine L69 _ ?_
                      · first | (rw [h61t]; rfl) | (rw [h61f]; rfl)
                    · refine fk_iconst (v := nI 1) d_Md_play_64 (by decide +kernel) ?_
                      refine fk_goto d_Md_play_65 rfl ?_
                      refine L69 _ ?_
                      · first | (rw [h61t]; rfl) | (rw [h61f]; rfl)
              refine L45 _ _ _ ?_ ?_ (Nat.lt_succ_self _)
              · first | omega | assumption | exact Nat.zero_le _
              · rfl
    refine L21 _ _ _ 1 _ _ ?_ ?_ ?_ ?_ ?_ ?_ ?_ ?_ (Nat.lt_succ_self _)
    · first | omega | assumption | exact Nat.zero_le _
    · exact fp_R_0 _ _ _ _ _
    · exact hq13
    · exact fp_bd_0
    · exact fun w => absurd w (by decide)
    · first | omega | assumption | exact Nat.zero_le _
    · exact fun _ _ => rfl
    · exact fun z hz => absurd hz (Nat.not_lt_zero z)
  · omega
set_option maxRecDepth 20000 in
set_option maxHeartbeats 4000000 in
theorem cD_play (E : fk_E) (b0 : Nat) (b1 : Nat) (b2 : Nat) (b3 : Nat) (b4 : Nat) (b5 : Nat) (b6 : Nat) (b7 : Nat) (b8 : Nat) (b9 : Nat) (b10 : Nat) (b11 : Nat) (b12 : Nat) (b13 : Nat) (b14 : Nat) (b15 : Nat) (mt : Nat) (mf : Nat) (my : Nat) (mw : Bool) (len : Nat → Nat) (ev : Nat → Nat) (mc : Nat → Nat) (mi : Nat → Nat) (mu : Nat → Nat) (mfi : Nat → Nat) (mla : Nat → Nat) (mac : Nat → Nat) (tk : Nat → Nat) (tp : Nat) (hN : fr_N mc mi mu mfi mla) (hm1 : mac 1 < 128) (htp : tp < 2 ^ 64) (ht : mt < 20) (hw : (fp_run (fr_O mc mu mfi 0) (fr_I mc mi mla 0) (fr_me mc mi mu mfi mla mac 0) tp 16).1 = 16) : fk_C E fy_Md_play prog_8_method_36_code 7 (some .int) 3 0 0 [.ref b0, .long (lN tp)] [(b0, .inr (6, [.int (nI mt), .ref b1, .ref b2, .ref b3, .ref b4, .ref b5, .ref b6, .ref b7, .ref b8, .ref b9, .int (nI mf), .ref b10, .ref b11, .ref b12, .int (nI my), .int (nI (Bool.toNat mw)), .ref b13, .ref b14, .ref b15])), fk_ai E b1 20 len, fk_ai E b2 300 ev, fk_ai E b3 2 mc, fk_ai E b4 28 mi, fk_ai E b5 28 mu, fk_ai E b6 2 mfi, fk_ai E b7 2 mla, fk_ai E b8 2 mac, fk_ai E b12 16 tk] (S := Nat × (Nat → Nat) × (Nat → Nat)) (fun (u : Nat × (Nat → Nat) × (Nat → Nat)) => some (.int (nI mt))) (fun (u : Nat × (Nat → Nat) × (Nat → Nat)) => u.1 ≤ 15 ∧ (fp_run (fr_O mc mu mfi 0) (fr_I mc mi mla 0) (fr_me mc mi mu mfi mla mac 0) tp 16).2.1 = u.1 ∧ (∀ k, k < 15 * mt → u.2.1 k = ev k) ∧ ∀ z, z < u.1 → u.2.1 (15 * mt + z) = (fp_run (fr_O mc mu mfi 0) (fr_I mc mi mla 0) (fr_me mc mi mu mfi mla mac 0) tp 16).2.2.1 z ∧ u.2.1 (15 * mt + z) < 7) (fun (u : Nat × (Nat → Nat) × (Nat → Nat)) => [(b0, .inr (6, [.int (nI (mt + 1)), .ref b1, .ref b2, .ref b3, .ref b4, .ref b5, .ref b6, .ref b7, .ref b8, .ref b9, .int (nI mf), .ref b10, .ref b11, .ref b12, .int (nI my), .int (nI (Bool.toNat mw)), .ref b13, .ref b14, .ref b15])), fk_ai E b1 20 (va_up len mt u.1), fk_ai E b2 300 u.2.1, fk_ai E b3 2 mc, fk_ai E b4 28 mi, fk_ai E b5 28 mu, fk_ai E b6 2 mfi, fk_ai E b7 2 mla, fk_ai E b8 2 mac, fk_ai E b12 16 u.2.2]) := by
  refine fk_enterI (v := fun (u : Nat × (Nat → Nat) × (Nat → Nat)) => (nI mt)) (by decide) (Nat.le_of_ble_eq_true rfl) (lv0 := [(0, .ref b0), (1, .long (lN tp))]) rfl ?_
  intro K hini hret
  refine fk_aload_n 0 d_Md_play_0 rfl ?_
  refine fk_get 0 0 rfl rfl fh_Md (Nat.le_of_ble_eq_true rfl) fw_507 rfl d_Md_play_1 ?_
  refine fk_bipush (v := nI 20) d_Md_play_4 (by decide +kernel) ?_
  refine fk_icmp_ne (a := mt) (b := 20) (by omega) (by omega) d_Md_play_6 rfl (fun h6t => ?_) (fun h6f => ?_)
  · refine fk_aload_n 0 d_Md_play_12 rfl ?_
    refine fk_callV (q0 := 0) (As := []) (rest := []) (is := [0, 9]) (ir := [1, 2, 3, 4, 5, 6, 7, 8]) (ip := [8, 0, 1, 2, 3, 4, 5, 6, 7, 9]) (wc := [(b0, .inr (6, [.int (nI mt), .ref b1, .ref b2, .ref b3, .ref b4, .ref b5, .ref b6, .ref b7, .ref b8, .ref b9, .int (nI mf), .ref b10, .ref b11, .ref b12, .int (nI my), .int (nI (Bool.toNat mw)), .ref b13, .ref b14, .ref b15])), fk_ai E b12 16 tk]) (wr := [fk_ai E b1 20 len, fk_ai E b2 300 ev, fk_ai E b3 2 mc, fk_ai E b4 28 mi, fk_ai E b5 28 mu, fk_ai E b6 2 mfi, fk_ai E b7 2 mla, fk_ai E b8 2 mac]) (w2 := fun u => [(b0, .inr (6, [.int (nI mt), .ref b1, .ref b2, .ref b3, .ref b4, .ref b5, .ref b6, .ref b7, .ref b8, .ref b9, .int (nI mf), .ref b10, .ref b11, .ref b12, .int (nI my), .int (nI (Bool.toNat mw)), .ref b13, .ref b14, .ref b15])), fk_ai E b1 20 len, fk_ai E b2 300 ev, fk_ai E b3 2 mc, fk_ai E b4 28 mi, fk_ai E b5 28 mu, fk_ai E b6 2 mfi, fk_ai E b7 2 mla, fk_ai E b8 2 mac, fk_ai E b12 16 u]) (cD_initial E b0 b1 b2 b3 b4 b5 b6 b7 b8 b9 b10 b11 b12 b13 b14 b15 mt mf my mw tk ) d_Md_play_13 fz_Md_initial fw_642 rfl rfl fw_644 fw_p19 ⟨Nat.le_of_ble_eq_true rfl, Nat.le_of_ble_eq_true rfl⟩ rfl (Nat.le_of_ble_eq_true rfl) ⟨Nat.zero_le _, Nat.zero_le _⟩ ⟨rfl, rfl, rfl, rfl, by decide, fun _ => rfl, rfl⟩ (fun u hu13 => ?_)
    obtain ⟨tk9_13, rfl⟩ : ∃ z, z = u := ⟨_, rfl⟩
    have hq13 : fr_T tk9_13 1 := hu13
    show fk_V E _ K (0, 0) [(b0, .inr (6, [.int (nI mt), .ref b1, .ref b2, .ref b3, .ref b4, .ref b5, .ref b6, .ref b7, .ref b8, .ref b9, .int (nI mf), .ref b10, .ref b11, .ref b12, .int (nI my), .int (nI (Bool.toNat mw)), .ref b13, .ref b14, .ref b15])), fk_ai E b1 20 len, fk_ai E b2 300 ev, fk_ai E b3 2 mc, fk_ai E b4 28 mi, fk_ai E b5 28 mu, fk_ai E b6 2 mfi, fk_ai E b7 2 mla, fk_ai E b8 2 mac, fk_ai E b12 16 tk9_13] 16 [(0, .ref b0), (1, .long (lN tp))] []
    refine fk_iconst (v := nI 0) d_Md_play_16 (by decide +kernel) ?_
    refine fk_istore_n (lv' := [(0, .ref b0), (1, .long (lN tp)), (3, .int (nI 0))]) d_Md_play_17 rfl (Nat.le_of_ble_eq_true rfl) [1, 2, 0] rfl ?_
    refine fk_iconst (v := nI 1) d_Md_play_18 (by decide +kernel) ?_
    refine fk_istore (lv' := [(0, .ref b0), (1, .long (lN tp)), (3, .int (nI 0)), (4, .int (nI 1))]) d_Md_play_19 (Nat.le_of_ble_eq_true rfl) [1, 2, 3, 0] rfl ?_
    have L21 : ∀ (fuel : Nat) (n : Nat) (ab : Nat) (x : Nat) (t1 : Nat → Nat) (e1 : Nat → Nat), (n ≤ 15) → (fp_R (fr_O mc mu mfi 0) (fr_I mc mi mla 0) (fr_me mc mi mu mfi mla mac 0) tp n x (fun z => e1 (15 * mt + z))) → (fr_T t1 x) → (fp_bd x n) → (ab = 0 → (fs_ens (fr_O mc mu mfi 0) (fr_me mc mi mu mfi mla mac 0) x) = 0 ∧ x ≠ 16 ∧ n < 15) → (ab ≤ 7) → (∀ k, k < 15 * mt → e1 k = ev k) → (∀ z, z < n → e1 (15 * mt + z) < 7) → 2 * (15 - n) + (if 0 < ab then 1 else 0) < fuel → fk_V E (prog_8_method_36_code, fy_Md_play.cls, 7, fk_rm 3 0 0) K (0, 0) [(b0, .inr (6, [.int (nI mt), .ref b1, .ref b2, .ref b3, .ref b4, .ref b5, .ref b6, .ref b7, .ref b8, .ref b9, .int (nI mf), .ref b10, .ref b11, .ref b12, .int (nI my), .int (nI (Bool.toNat mw)), .ref b13, .ref b14, .ref b15])), fk_ai E b1 20 len, fk_ai E b2 300 e1, fk_ai E b3 2 mc, fk_ai E b4 28 mi, fk_ai E b5 28 mu, fk_ai E b6 2 mfi, fk_ai E b7 2 mla, fk_ai E b8 2 mac, fk_ai E b12 16 t1] 21 [(0, .ref b0), (1, .long (lN tp)), (3, .int (nI n)), (4, .int (nI ab))] [] := by
      intro fuel
      induction fuel with
      | zero => intro n ab x t1 e1 _ _ _ _ _ _ _ _ hm; exact absurd hm (Nat.not_lt_zero _)
      | succ fuel ih =>
        intro n ab x t1 e1 h1 h2 h3 h4 h5 h5b h6 h7 hm21
        have ih21 := ih
        clear ih
        refine fk_iload_n 2 d_Md_play_21 rfl ?_
        refine fk_bipush (v := nI 15) d_Md_play_22 (by decide +kernel) ?_
        refine fk_icmp_ge (a := n) (b := 15) (by omega) (by omega) d_Md_play_24 rfl (fun h24t => ?_) (fun h24f => ?_)
        · refine fk_aload_n 0 d_Md_play_171 rfl ?_
          refine fk_callV (q0 := 0) (As := []) (rest := []) (is := [0, 9]) (ir := [1, 2, 3, 4, 5, 6, 7, 8]) (ip := [8, 0, 1, 2, 3, 4, 5, 6, 7, 9]) (wc := [(b0, .inr (6, [.int (nI mt), .ref b1, .ref b2, .ref b3, .ref b4, .ref b5, .ref b6, .ref b7, .ref b8, .ref b9, .int (nI mf), .ref b10, .ref b11, .ref b12, .int (nI my), .int (nI (Bool.toNat mw)), .ref b13, .ref b14, .ref b15])), fk_ai E b12 16 t1]) (wr := [fk_ai E b1 20 len, fk_ai E b2 300 e1, fk_ai E b3 2 mc, fk_ai E b4 28 mi, fk_ai E b5 28 mu, fk_ai E b6 2 mfi, fk_ai E b7 2 mla, fk_ai E b8 2 mac]) (w2 := fun _ => [(b0, .inr (6, [.int (nI mt), .ref b1, .ref b2, .ref b3, .ref b4, .ref b5, .ref b6, .ref b7, .ref b8, .ref b9, .int (nI mf), .ref b10, .ref b11, .ref b12, .int (nI my), .int (nI (Bool.toNat mw)), .ref b13, .ref b14, .ref b15])), fk_ai E b1 20 len, fk_ai E b2 300 e1, fk_ai E b3 2 mc, fk_ai E b4 28 mi, fk_ai E b5 28 mu, fk_ai E b6 2 mfi, fk_ai E b7 2 mla, fk_ai E b8 2 mac, fk_ai E b12 16 t1]) (cD_isFinal E b0 b1 b2 b3 b4 b5 b6 b7 b8 b9 b10 b11 b12 b13 b14 b15 mt mf my mw t1 x h3 h4.1) d_Md_play_172 fz_Md_isFinal fw_666 rfl rfl fw_668 fw_p25 ⟨Nat.le_of_ble_eq_true rfl, Nat.le_of_ble_eq_true rfl⟩ rfl (Nat.le_of_ble_eq_true rfl) ⟨Nat.zero_le _, Nat.zero_le _⟩ ⟨rfl, rfl, rfl, rfl, by decide, fun _ => rfl, rfl⟩ (fun u hu172 => ?_)
          show fk_V E _ K (0, 0) [(b0, .inr (6, [.int (nI mt), .ref b1, .ref b2, .ref b3, .ref b4, .ref b5, .ref b6, .ref b7, .ref b8, .ref b9, .int (nI mf), .ref b10, .ref b11, .ref b12, .int (nI my), .int (nI (Bool.toNat mw)), .ref b13, .ref b14, .ref b15])), fk_ai E b1 20 len, fk_ai E b2 300 e1, fk_ai E b3 2 mc, fk_ai E b4 28 mi, fk_ai E b5 28 mu, fk_ai E b6 2 mfi, fk_ai E b7 2 mla, fk_ai E b8 2 mac, fk_ai E b12 16 t1] 175 [(0, .ref b0), (1, .long (lN tp)), (3, .int (nI n)), (4, .int (nI ab))] [.int (nI (Bool.toNat (decide (x = 16))))]
          refine fk_if_neB (b := (decide (x = 16))) d_Md_play_175 rfl (fun h175t => ?_) (fun h175f => ?_)
          · refine fk_aload_n 0 d_Md_play_180 rfl ?_
            refine fk_get 0 1 rfl rfl fh_Md (Nat.le_of_ble_eq_true rfl) fw_508 rfl d_Md_play_181 ?_
            refine fk_aload_n 0 d_Md_play_184 rfl ?_
            refine fk_get 0 0 rfl rfl fh_Md (Nat.le_of_ble_eq_true rfl) fw_507 rfl d_Md_play_185 ?_
            refine fk_iload_n 2 d_Md_play_188 rfl ?_
            refine fk_st_ai (i := mt) (x := n) (w' := [(b0, .inr (6, [.int (nI mt), .ref b1, .ref b2, .ref b3, .ref b4, .ref b5, .ref b6, .ref b7, .ref b8, .ref b9, .int (nI mf), .ref b10, .ref b11, .ref b12, .int (nI my), .int (nI (Bool.toNat mw)), .ref b13, .ref b14, .ref b15])), fk_ai E b1 20 (va_up len mt n), fk_ai E b2 300 e1, fk_ai E b3 2 mc, fk_ai E b4 28 mi, fk_ai E b5 28 mu, fk_ai E b6 2 mfi, fk_ai E b7 2 mla, fk_ai E b8 2 mac, fk_ai E b12 16 t1]) 1 rfl (by omega) (by decide) d_Md_play_189 rfl ?_
            refine fk_aload_n 0 d_Md_play_190 rfl ?_
            refine fk_dup d_Md_play_191 rfl ?_
            refine fk_get 0 0 rfl rfl fh_Md (Nat.le_of_ble_eq_true rfl) fw_507 rfl d_Md_play_192 ?_
            refine fk_iconst (v := nI 1) d_Md_play_195 (by decide +kernel) ?_
            refine fk_iadd (a := mt) (b := 1) d_Md_play_196 ?_
            refine fk_put (w' := [(b0, .inr (6, [.int (nI (mt + 1)), .ref b1, .ref b2, .ref b3, .ref b4, .ref b5, .ref b6, .ref b7, .ref b8, .ref b9, .int (nI mf), .ref b10, .ref b11, .ref b12, .int (nI my), .int (nI (Bool.toNat mw)), .ref b13, .ref b14, .ref b15])), fk_ai E b1 20 (va_up len mt n), fk_ai E b2 300 e1, fk_ai E b3 2 mc, fk_ai E b4 28 mi, fk_ai E b5 28 mu, fk_ai E b6 2 mfi, fk_ai E b7 2 mla, fk_ai E b8 2 mac, fk_ai E b12 16 t1]) 0 0 fT_Md fT_Md_ok fT_Md_nm rfl rfl fh_Md (Nat.le_of_ble_eq_true rfl) fw_507 rfl (fT_Md_ok 0 (Nat.le_of_ble_eq_true rfl)) rfl rfl (Nat.le_of_ble_eq_true rfl) d_Md_play_197 rfl ?_
            refine fk_aload_n 0 d_Md_play_200 rfl ?_
            refine fk_get 0 0 rfl rfl fh_Md (Nat.le_of_ble_eq_true rfl) fw_507 rfl d_Md_play_201 ?_
            refine fk_iconst (v := nI 1) d_Md_play_204 (by decide +kernel) ?_
            refine fk_isub (a := (mt + 1)) (b := 1) d_Md_play_205 (by omega) ?_
            refine fk_top (congrArg nI (show (mt + 1) - 1 = mt from by first | omega | simp_all)) ?_
            have hpp : n ≤ 15 ∧ (fp_run (fr_O mc mu mfi 0) (fr_I mc mi mla 0) (fr_me mc mi mu mfi mla mac 0) tp 16).2.1 = n ∧ (∀ k, k < 15 * mt → e1 k = ev k) ∧ ∀ z, z < n → e1 (15 * mt + z) = (fp_run (fr_O mc mu mfi 0) (fr_I mc mi mla 0) (fr_me mc mi mu mfi mla mac 0) tp 16).2.2.1 z ∧ e1 (15 * mt + z) < 7 := by first | (have w := fp_R_end h2 h1 (Or.inl h24t); exact ⟨h1, w.2.1, h6, fun z hz => ⟨w.2.2 z hz, h7 z hz⟩⟩) | (have w := fp_R_end h2 h1 (Or.inr (of_decide_eq_true h36t)); exact ⟨h1, w.2.1, h6, fun z hz => ⟨w.2.2 z hz, h7 z hz⟩⟩) | exact absurd (of_decide_eq_true h175t) (h5 h29t).2.1
            exact hret (0, 0) _ 206 _ (n, e1, t1) d_Md_play_206 (hpp) (rfl)
          · first | exact absurd hw (fp_R_dead h2 (h5 h29t).2.2 (h5 h29t).2.1 (h5 h29t).1) | (have w := fp_R_end h2 h1 (Or.inl h24t); exact absurd (w.1.symm.trans hw) (of_decide_eq_false h175f)) | (have w := fp_R_end h2 h1 (Or.inr (of_decide_eq_true h36t)); exact absurd (w.1.symm.trans hw) (of_decide_eq_false h175f))
        · refine fk_iload 3 d_Md_play_27 rfl ?_
          refine fk_if_le (a := ab) (by omega) d_Md_play_29 rfl (fun h29t => ?_) (fun h29f => ?_)
          · refine fk_aload_n 0 d_Md_play_171 rfl ?_
            refine fk_callV (q0 := 0) (As := []) (rest := []) (is := [0, 9]) (ir := [1, 2, 3, 4, 5, 6, 7, 8]) (ip := [8, 0, 1, 2, 3, 4, 5, 6, 7, 9]) (wc := [(b0, .inr (6, [.int (nI mt), .ref b1, .ref b2, .ref b3, .ref b4, .ref b5, .ref b6, .ref b7, .ref b8, .ref b9, .int (nI mf), .ref b10, .ref b11, .ref b12, .int (nI my), .int (nI (Bool.toNat mw)), .ref b13, .ref b14, .ref b15])), fk_ai E b12 16 t1]) (wr := [fk_ai E b1 20 len, fk_ai E b2 300 e1, fk_ai E b3 2 mc, fk_ai E b4 28 mi, fk_ai E b5 28 mu, fk_ai E b6 2 mfi, fk_ai E b7 2 mla, fk_ai E b8 2 mac]) (w2 := fun _ => [(b0, .inr (6, [.int (nI mt), .ref b1, .ref b2, .ref b3, .ref b4, .ref b5, .ref b6, .ref b7, .ref b8, .ref b9, .int (nI mf), .ref b10, .ref b11, .ref b12, .int (nI my), .int (nI (Bool.toNat mw)), .ref b13, .ref b14, .ref b15])), fk_ai E b1 20 len, fk_ai E b2 300 e1, fk_ai E b3 2 mc, fk_ai E b4 28 mi, fk_ai E b5 28 mu, fk_ai E b6 2 mfi, fk_ai E b7 2 mla, fk_ai E b8 2 mac, fk_ai E b12 16 t1]) (cD_isFinal E b0 b1 b2 b3 b4 b5 b6 b7 b8 b9 b10 b11 b12 b13 b14 b15 mt mf my mw t1 x h3 h4.1) d_Md_play_172 fz_Md_isFinal fw_666 rfl rfl fw_668 fw_p25 ⟨Nat.le_of_ble_eq_true rfl, Nat.le_of_ble_eq_true rfl⟩ rfl (Nat.le_of_ble_eq_true rfl) ⟨Nat.zero_le _, Nat.zero_le _⟩ ⟨rfl, rfl, rfl, rfl, by decide, fun _ => rfl, rfl⟩ (fun u hu172 => ?_)
            show fk_V E _ K (0, 0) [(b0, .inr (6, [.int (nI mt), .ref b1, .ref b2, .ref b3, .ref b4, .ref b5, .ref b6, .ref b7, .ref b8, .ref b9, .int (nI mf), .ref b10, .ref b11, .ref b12, .int (nI my), .int (nI (Bool.toNat mw)), .ref b13, .ref b14, .ref b15])), fk_ai E b1 20 len, fk_ai E b2 300 e1, fk_ai E b3 2 mc, fk_ai E b4 28 mi, fk_ai E b5 28 mu, fk_ai E b6 2 mfi, fk_ai E b7 2 mla, fk_ai E b8 2 mac, fk_ai E b12 16 t1] 175 [(0, .ref b0), (1, .long (lN tp)), (3, .int (nI n)), (4, .int (nI ab))] [.int (nI (Bool.toNat (decide (x = 16))))]
            refine fk_if_neB (b := (decide (x = 16))) d_Md_play_175 rfl (fun h175t => ?_) (fun h175f => ?_)
            · refine fk_aload_n 0 d_Md_play_180 rfl ?_
              refine fk_get 0 1 rfl rfl fh_Md (Nat.le_of_ble_eq_true rfl) fw_508 rfl d_Md_play_181 ?_
              refine fk_aload_n 0 d_Md_play_184 rfl ?_
              refine fk_get 0 0 rfl rfl fh_Md (Nat.le_of_ble_eq_true rfl) fw_507 rfl d_Md_play_185 ?_
              refine fk_iload_n 2 d_Md_play_188 rfl ?_
              refine fk_st_ai (i := mt) (x := n) (w' := [(b0, .inr (6, [.int (nI mt), .ref b1, .ref b2, .ref b3, .ref b4, .ref b5, .ref b6, .ref b7, .ref b8, .ref b9, .int (nI mf), .ref b10, .ref b11, .ref b12, .int (nI my), .int (nI (Bool.toNat mw)), .ref b13, .ref b14, .ref b15])), fk_ai E b1 20 (va_up len mt n), fk_ai E b2 300 e1, fk_ai E b3 2 mc, fk_ai E b4 28 mi, fk_ai E b5 28 mu, fk_ai E b6 2 mfi, fk_ai E b7 2 mla, fk_ai E b8 2 mac, fk_ai E b12 16 t1]) 1 rfl (by omega) (by decide) d_Md_play_189 rfl ?_
              refine fk_aload_n 0 d_Md_play_190 rfl ?_
              refine fk_dup d_Md_play_191 rfl ?_
              refine fk_get 0 0 rfl rfl fh_Md (Nat.le_of_ble_eq_true rfl) fw_507 rfl d_Md_play_192 ?_
              refine fk_iconst (v := nI 1) d_Md_play_195 (by decide +kernel) ?_
              refine fk_iadd (a := mt) (b := 1) d_Md_play_196 ?_
              refine fk_put (w' := [(b0, .inr (6, [.int (nI (mt + 1)), .ref b1, .ref b2, .ref b3, .ref b4, .ref b5, .ref b6, .ref b7, .ref b8, .ref b9, .int (nI mf), .ref b10, .ref b11, .ref b12, .int (nI my), .int (nI (Bool.toNat mw)), .ref b13, .ref b14, .ref b15])), fk_ai E b1 20 (va_up len mt n), fk_ai E b2 300 e1, fk_ai E b3 2 mc, fk_ai E b4 28 mi, fk_ai E b5 28 mu, fk_ai E b6 2 mfi, fk_ai E b7 2 mla, fk_ai E b8 2 mac, fk_ai E b12 16 t1]) 0 0 fT_Md fT_Md_ok fT_Md_nm rfl rfl fh_Md (Nat.le_of_ble_eq_true rfl) fw_507 rfl (fT_Md_ok 0 (Nat.le_of_ble_eq_true rfl)) rfl rfl (Nat.le_of_ble_eq_true rfl) d_Md_play_197 rfl ?_
              refine fk_aload_n 0 d_Md_play_200 rfl ?_
              refine fk_get 0 0 rfl rfl fh_Md (Nat.le_of_ble_eq_true rfl) fw_507 rfl d_Md_play_201 ?_
              refine fk_iconst (v := nI 1) d_Md_play_204 (by decide +kernel) ?_
              refine fk_isub (a := (mt + 1)) (b := 1) d_Md_play_205 (by omega) ?_
              refine fk_top (congrArg nI (show (mt + 1) - 1 = mt from by first | omega | simp_all)) ?_
              have hpp : n ≤ 15 ∧ (fp_run (fr_O mc mu mfi 0) (fr_I mc mi mla 0) (fr_me mc mi mu mfi mla mac 0) tp 16).2.1 = n ∧ (∀ k, k < 15 * mt → e1 k = ev k) ∧ ∀ z, z < n → e1 (15 * mt + z) = (fp_run (fr_O mc mu mfi 0) (fr_I mc mi mla 0) (fr_me mc mi mu mfi mla mac 0) tp 16).2.2.1 z ∧ e1 (15 * mt + z) < 7 := by first | (have w := fp_R_end h2 h1 (Or.inl h24t); exact ⟨h1, w.2.1, h6, fun z hz => ⟨w.2.2 z hz, h7 z hz⟩⟩) | (have w := fp_R_end h2 h1 (Or.inr (of_decide_eq_true h36t)); exact ⟨h1, w.2.1, h6, fun z hz => ⟨w.2.2 z hz, h7 z hz⟩⟩) | exact absurd (of_decide_eq_true h175t) (h5 h29t).2.1
              exact hret (0, 0) _ 206 _ (n, e1, t1) d_Md_play_206 (hpp) (rfl)
            · first | exact absurd hw (fp_R_dead h2 (h5 h29t).2.2 (h5 h29t).2.1 (h5 h29t).1) | (have w := fp_R_end h2 h1 (Or.inl h24t); exact absurd (w.1.symm.trans hw) (of_decide_eq_false h175f)) | (have w := fp_R_end h2 h1 (Or.inr (of_decide_eq_true h36t)); exact absurd (w.1.symm.trans hw) (of_decide_eq_false h175f))
          · refine fk_aload_n 0 d_Md_play_32 rfl ?_
            refine fk_callV (q0 := 0) (As := []) (rest := []) (is := [0, 9]) (ir := [1, 2, 3, 4, 5, 6, 7, 8]) (ip := [8, 0, 1, 2, 3, 4, 5, 6, 7, 9]) (wc := [(b0, .inr (6, [.int (nI mt), .ref b1, .ref b2, .ref b3, .ref b4, .ref b5, .ref b6, .ref b7, .ref b8, .ref b9, .int (nI mf), .ref b10, .ref b11, .ref b12, .int (nI my), .int (nI (Bool.toNat mw)), .ref b13, .ref b14, .ref b15])), fk_ai E b12 16 t1]) (wr := [fk_ai E b1 20 len, fk_ai E b2 300 e1, fk_ai E b3 2 mc, fk_ai E b4 28 mi, fk_ai E b5 28 mu, fk_ai E b6 2 mfi, fk_ai E b7 2 mla, fk_ai E b8 2 mac]) (w2 := fun _ => [(b0, .inr (6, [.int (nI mt), .ref b1, .ref b2, .ref b3, .ref b4, .ref b5, .ref b6, .ref b7, .ref b8, .ref b9, .int (nI mf), .ref b10, .ref b11, .ref b12, .int (nI my), .int (nI (Bool.toNat mw)), .ref b13, .ref b14, .ref b15])), fk_ai E b1 20 len, fk_ai E b2 300 e1, fk_ai E b3 2 mc, fk_ai E b4 28 mi, fk_ai E b5 28 mu, fk_ai E b6 2 mfi, fk_ai E b7 2 mla, fk_ai E b8 2 mac, fk_ai E b12 16 t1]) (cD_isFinal E b0 b1 b2 b3 b4 b5 b6 b7 b8 b9 b10 b11 b12 b13 b14 b15 mt mf my mw t1 x h3 h4.1) d_Md_play_33 fz_Md_isFinal fw_666 rfl rfl fw_668 fw_p25 ⟨Nat.le_of_ble_eq_true rfl, Nat.le_of_ble_eq_true rfl⟩ rfl (Nat.le_of_ble_eq_true rfl) ⟨Nat.zero_le _, Nat.zero_le _⟩ ⟨rfl, rfl, rfl, rfl, by decide, fun _ => rfl, rfl⟩ (fun u hu33 => ?_)
            show fk_V E _ K (0, 0) [(b0, .inr (6, [.int (nI mt), .ref b1, .ref b2, .ref b3, .ref b4, .ref b5, .ref b6, .ref b7, .ref b8, .ref b9, .int (nI mf), .ref b10, .ref b11, .ref b12, .int (nI my), .int (nI (Bool.toNat mw)), .ref b13, .ref b14, .ref b15])), fk_ai E b1 20 len, fk_ai E b2 300 e1, fk_ai E b3 2 mc, fk_ai E b4 28 mi, fk_ai E b5 28 mu, fk_ai E b6 2 mfi, fk_ai E b7 2 mla, fk_ai E b8 2 mac, fk_ai E b12 16 t1] 36 [(0, .ref b0), (1, .long (lN tp)), (3, .int (nI n)), (4, .int (nI ab))] [.int (nI (Bool.toNat (decide (x = 16))))]
            refine fk_if_neB (b := (decide (x = 16))) d_Md_play_36 rfl (fun h36t => ?_) (fun h36f => ?_)
            · refine fk_aload_n 0 d_Md_play_171 rfl ?_
              refine fk_callV (q0 := 0) (As := []) (rest := []) (is := [0, 9]) (ir := [1, 2, 3, 4, 5, 6, 7, 8]) (ip := [8, 0, 1, 2, 3, 4, 5, 6, 7, 9]) (wc := [(b0, .inr (6, [.int (nI mt), .ref b1, .ref b2, .ref b3, .ref b4, .ref b5, .ref b6, .ref b7, .ref b8, .ref b9, .int (nI mf), .ref b10, .ref b11, .ref b12, .int (nI my), .int (nI (Bool.toNat mw)), .ref b13, .ref b14, .ref b15])), fk_ai E b12 16 t1]) (wr := [fk_ai E b1 20 len, fk_ai E b2 300 e1, fk_ai E b3 2 mc, fk_ai E b4 28 mi, fk_ai E b5 28 mu, fk_ai E b6 2 mfi, fk_ai E b7 2 mla, fk_ai E b8 2 mac]) (w2 := fun _ => [(b0, .inr (6, [.int (nI mt), .ref b1, .ref b2, .ref b3, .ref b4, .ref b5, .ref b6, .ref b7, .ref b8, .ref b9, .int (nI mf), .ref b10, .ref b11, .ref b12, .int (nI my), .int (nI (Bool.toNat mw)), .ref b13, .ref b14, .ref b15])), fk_ai E b1 20 len, fk_ai E b2 300 e1, fk_ai E b3 2 mc, fk_ai E b4 28 mi, fk_ai E b5 28 mu, fk_ai E b6 2 mfi, fk_ai E b7 2 mla, fk_ai E b8 2 mac, fk_ai E b12 16 t1]) (cD_isFinal E b0 b1 b2 b3 b4 b5 b6 b7 b8 b9 b10 b11 b12 b13 b14 b15 mt mf my mw t1 x h3 h4.1) d_Md_play_172 fz_Md_isFinal fw_666 rfl rfl fw_668 fw_p25 ⟨Nat.le_of_ble_eq_true rfl, Nat.le_of_ble_eq_true rfl⟩ rfl (Nat.le_of_ble_eq_true rfl) ⟨Nat.zero_le _, Nat.zero_le _⟩ ⟨rfl, rfl, rfl, rfl, by decide, fun _ => rfl, rfl⟩ (fun u hu172 => ?_)
              show fk_V E _ K (0, 0) [(b0, .inr (6, [.int (nI mt), .ref b1, .ref b2, .ref b3, .ref b4, .ref b5, .ref b6, .ref b7, .ref b8, .ref b9, .int (nI mf), .ref b10, .ref b11, .ref b12, .int (nI my), .int (nI (Bool.toNat mw)), .ref b13, .ref b14, .ref b15])), fk_ai E b1 20 len, fk_ai E b2 300 e1, fk_ai E b3 2 mc, fk_ai E b4 28 mi, fk_ai E b5 28 mu, fk_ai E b6 2 mfi, fk_ai E b7 2 mla, fk_ai E b8 2 mac, fk_ai E b12 16 t1] 175 [(0, .ref b0), (1, .long (lN tp)), (3, .int (nI n)), (4, .int (nI ab))] [.int (nI (Bool.toNat (decide (x = 16))))]
              refine fk_if_neB (b := (decide (x = 16))) d_Md_play_175 rfl (fun h175t => ?_) (fun h175f => ?_)
              · refine fk_aload_n 0 d_Md_play_180 rfl ?_
                refine fk_get 0 1 rfl rfl fh_Md (Nat.le_of_ble_eq_true rfl) fw_508 rfl d_Md_play_181 ?_
                refine fk_aload_n 0 d_Md_play_184 rfl ?_
                refine fk_get 0 0 rfl rfl fh_Md (Nat.le_of_ble_eq_true rfl) fw_507 rfl d_Md_play_185 ?_
                refine fk_iload_n 2 d_Md_play_188 rfl ?_
                refine fk_st_ai (i := mt) (x := n) (w' := [(b0, .inr (6, [.int (nI mt), .ref b1, .ref b2, .ref b3, .ref b4, .ref b5, .ref b6, .ref b7, .ref b8, .ref b9, .int (nI mf), .ref b10, .ref b11, .ref b12, .int (nI my), .int (nI (Bool.toNat mw)), .ref b13, .ref b14, .ref b15])), fk_ai E b1 20 (va_up len mt n), fk_ai E b2 300 e1, fk_ai E b3 2 mc, fk_ai E b4 28 mi, fk_ai E b5 28 mu, fk_ai E b6 2 mfi, fk_ai E b7 2 mla, fk_ai E b8 2 mac, fk_ai E b12 16 t1]) 1 rfl (by omega) (by decide) d_Md_play_189 rfl ?_
                refine fk_aload_n 0 d_Md_play_190 rfl ?_
                refine fk_dup d_Md_play_191 rfl ?_
                refine fk_get 0 0 rfl rfl fh_Md (Nat.le_of_ble_eq_true rfl) fw_507 rfl d_Md_play_192 ?_
                refine fk_iconst (v := nI 1) d_Md_play_195 (by decide +kernel) ?_
                refine fk_iadd (a := mt) (b := 1) d_Md_play_196 ?_
                refine fk_put (w' := [(b0, .inr (6, [.int (nI (mt + 1)), .ref b1, .ref b2, .ref b3, .ref b4, .ref b5, .ref b6, .ref b7, .ref b8, .ref b9, .int (nI mf), .ref b10, .ref b11, .ref b12, .int (nI my), .int (nI (Bool.toNat mw)), .ref b13, .ref b14, .ref b15])), fk_ai E b1 20 (va_up len mt n), fk_ai E b2 300 e1, fk_ai E b3 2 mc, fk_ai E b4 28 mi, fk_ai E b5 28 mu, fk_ai E b6 2 mfi, fk_ai E b7 2 mla, fk_ai E b8 2 mac, fk_ai E b12 16 t1]) 0 0 fT_Md fT_Md_ok fT_Md_nm rfl rfl fh_Md (Nat.le_of_ble_eq_true rfl) fw_507 rfl (fT_Md_ok 0 (Nat.le_of_ble_eq_true rfl)) rfl rfl (Nat.le_of_ble_eq_true rfl) d_Md_play_197 rfl ?_
                refine fk_aload_n 0 d_Md_play_200 rfl ?_
                refine fk_get 0 0 rfl rfl fh_Md (Nat.le_of_ble_eq_true rfl) fw_507 rfl d_Md_play_201 ?_
                refine fk_iconst (v := nI 1) d_Md_play_204 (by decide +kernel) ?_
                refine fk_isub (a := (mt + 1)) (b := 1) d_Md_play_205 (by omega) ?_
                refine fk_top (congrArg nI (show (mt + 1) - 1 = mt from by first | omega | simp_all)) ?_
                have hpp : n ≤ 15 ∧ (fp_run (fr_O mc mu mfi 0) (fr_I mc mi mla 0) (fr_me mc mi mu mfi mla mac 0) tp 16).2.1 = n ∧ (∀ k, k < 15 * mt → e1 k = ev k) ∧ ∀ z, z < n → e1 (15 * mt + z) = (fp_run (fr_O mc mu mfi 0) (fr_I mc mi mla 0) (fr_me mc mi mu mfi mla mac 0) tp 16).2.2.1 z ∧ e1 (15 * mt + z) < 7 := by first | (have w := fp_R_end h2 h1 (Or.inl h24t); exact ⟨h1, w.2.1, h6, fun z hz => ⟨w.2.2 z hz, h7 z hz⟩⟩) | (have w := fp_R_end h2 h1 (Or.inr (of_decide_eq_true h36t)); exact ⟨h1, w.2.1, h6, fun z hz => ⟨w.2.2 z hz, h7 z hz⟩⟩) | exact absurd (of_decide_eq_true h175t) (h5 h29t).2.1
                exact hret (0, 0) _ 206 _ (n, e1, t1) d_Md_play_206 (hpp) (rfl)
              · first | exact absurd hw (fp_R_dead h2 (h5 h29t).2.2 (h5 h29t).2.1 (h5 h29t).1) | (have w := fp_R_end h2 h1 (Or.inl h24t); exact absurd (w.1.symm.trans hw) (of_decide_eq_false h175f)) | (have w := fp_R_end h2 h1 (Or.inr (of_decide_eq_true h36t)); exact absurd (w.1.symm.trans hw) (of_decide_eq_false h175f))
            · refine fk_iconst (v := nI 0) d_Md_play_39 (by decide +kernel) ?_
              refine fk_istore (lv' := [(0, .ref b0), (1, .long (lN tp)), (3, .int (nI n)), (4, .int (nI 0))]) d_Md_play_40 (Nat.le_of_ble_eq_true rfl) [1, 2, 3, 0] rfl ?_
              refine fk_iconst (v := nI 0) d_Md_play_42 (by decide +kernel) ?_
              refine fk_istore (lv' := [(0, .ref b0), (1, .long (lN tp)), (3, .int (nI n)), (4, .int (nI 0)), (5, .int (nI 0))]) d_Md_play_43 (Nat.le_of_ble_eq_true rfl) [1, 2, 3, 4, 0] rfl ?_
              have L45 : ∀ (fuel : Nat) (ab1 : Nat) (a : Nat), (a ≤ 7) → (ab1 = fs_bc (fs_ens (fr_O mc mu mfi 0) (fr_me mc mi mu mfi mla mac 0) x) a) → 7 - a < fuel → fk_V E (prog_8_method_36_code, fy_Md_play.cls, 7, fk_rm 3 0 0) K (0, 0) [(b0, .inr (6, [.int (nI mt), .ref b1, .ref b2, .ref b3, .ref b4, .ref b5, .ref b6, .ref b7, .ref b8, .ref b9, .int (nI mf), .ref b10, .ref b11, .ref b12, .int (nI my), .int (nI (Bool.toNat mw)), .ref b13, .ref b14, .ref b15])), fk_ai E b1 20 len, fk_ai E b2 300 e1, fk_ai E b3 2 mc, fk_ai E b4 28 mi, fk_ai E b5 28 mu, fk_ai E b6 2 mfi, fk_ai E b7 2 mla, fk_ai E b8 2 mac, fk_ai E b12 16 t1] 45 [(0, .ref b0), (1, .long (lN tp)), (3, .int (nI n)), (4, .int (nI ab1)), (5, .int (nI a))] [] := by
                intro fuel
                induction fuel with
                | zero => intro ab1 a _ _ hm; exact absurd hm (Nat.not_lt_zero _)
                | succ fuel ih =>
                  intro ab1 a h8 h9 hm45
                  have ih45 := ih
                  clear ih
                  have g1 := fs_bc_le (fs_ens (fr_O mc mu mfi 0) (fr_me mc mi mu mfi mla mac 0) x) a
                  refine fk_iload 4 d_Md_play_45 rfl ?_
                  refine fk_bipush (v := nI 7) d_Md_play_47 (by decide +kernel) ?_
                  refine fk_icmp_ge (a := a) (b := 7) (by omega) (by omega) d_Md_play_49 rfl (fun h49t => ?_) (fun h49f => ?_)
                  · have g2 : a = 7 := by omega
                    have g3 : ab1 = fs_bc (fs_ens (fr_O mc mu mfi 0) (fr_me mc mi mu mfi mla mac 0) x) 7 := by rw [h9, g2]
                    refine fk_iload 3 d_Md_play_78 rfl ?_
                    refine fk_if_le (a := ab1) (by omega) d_Md_play_80 rfl (fun h80t => ?_) (fun h80f => ?_)
                    · refine fk_lv (lv' := [(0, .ref b0), (1, .long (lN tp)), (3, .int (nI n)), (4, .int (nI ab1))]) [0, 1, 2, 3] rfl ?_
                      refine ih21 _ _ x _ _ ?_ ?_ ?_ ?_ ?_ ?_ ?_ ?_ ?_
                      · first | omega | assumption | exact Nat.zero_le _
                      · exact h2
                      · exact h3
                      · exact h4
                      · exact fun _ => ⟨fs_bc_zero _ (fs_ens_lt _ _ _) (by rw [← g3]; exact h80t), of_decide_eq_false h36f, h24f⟩
                      · first | omega | assumption | exact Nat.zero_le _
                      · exact h6
                      · exact h7
                      · rw [if_pos h29f] at hm21
                        rw [h80t, if_neg (by decide)]
                        omega
                    · have g6 := fs_ens_lt (fr_O mc mu mfi 0) (fr_me mc mi mu mfi mla mac 0) x
                      have g5 : (fs_ens (fr_O mc mu mfi 0) (fr_me mc mi mu mfi mla mac 0) x) ≠ 0 := fun w => by rw [w] at g3; rw [g3] at h80f; exact absurd h80f (by decide)
                      have g7 := fs_bc_lt (fs_ens (fr_O mc mu mfi 0) (fr_me mc mi mu mfi mla mac 0) x) g6
                      have g11 : ∀ a, fp_bt (fs_ens (fr_O mc mu mfi 0) (fr_me mc mi mu mfi mla mac 0) x) (7 - a) a ≤ 7 := fun a => fp_bt_le _ _ _ (by omega)
                      refine fk_lload_n 1 d_Md_play_83 rfl ?_
                      refine fk_iconst (v := nI 3) d_Md_play_84 (by decide +kernel) ?_
                      refine fk_iload_n 2 d_Md_play_85 rfl ?_
                      refine fk_imul (a := 3) (b := n) d_Md_play_86 ?_
                      refine fk_lshr d_Md_play_87 rfl ?_
                      refine fk_ldc2 (v := (7 : Int64)) d_Md_play_88 fw_706 ?_
                      refine fk_topl (show (7 : Int64) = lN 7 by decide +kernel) ?_
                      refine fk_landR d_Md_play_91 ?_
                      refine fk_topl (show ((lN tp >>> ((nI (3 * n)).toInt64 &&& 63)) &&& (lN 7)) = (lN (tp / 2 ^ (3 * n) % 8)) from fn_sar htp (by omega)) ?_
                      refine fk_l2i d_Md_play_92 (lN_i (tp / 2 ^ (3 * n) % 8)) ?_
                      refine fk_iload 3 d_Md_play_93 rfl ?_
                      refine fk_irem (a := (tp / 2 ^ (3 * n) % 8)) (b := ab1) d_Md_play_95 (by have := Nat.mod_lt (tp / 2 ^ (3 * n)) (show 0 < 8 by decide); omega) (by omega) (by omega) ?_
                      refine fk_istore (lv' := [(0, .ref b0), (1, .long (lN tp)), (3, .int (nI n)), (4, .int (nI ab1)), (5, .int (nI ((tp / 2 ^ (3 * n) % 8) % ab1)))]) d_Md_play_96 (Nat.le_of_ble_eq_true rfl) [1, 2, 3, 4, 0] rfl ?_
                      refine fk_iconst (v := nI 0) d_Md_play_98 (by decide +kernel) ?_
                      refine fk_istore (lv' := [(0, .ref b0), (1, .long (lN tp)), (3, .int (nI n)), (4, .int (nI ab1)), (5, .int (nI ((tp / 2 ^ (3 * n) % 8) % ab1))), (6, .int (nI 0))]) d_Md_play_99 (Nat.le_of_ble_eq_true rfl) [1, 2, 3, 4, 5, 0] rfl ?_
                      have L101 : ∀ (fuel : Nat) (l : Nat) (a2 : Nat), (fp_ch (fr_O mc mu mfi 0) (fr_me mc mi mu mfi mla mac 0) tp x n = fp_pk (fs_ens (fr_O mc mu mfi 0) (fr_me mc mi mu mfi mla mac 0) x) (7 - a2) a2 l) → (l < fp_bt (fs_ens (fr_O mc mu mfi 0) (fr_me mc mi mu mfi mla mac 0) x) (7 - a2) a2) → 7 - a2 < fuel → fk_V E (prog_8_method_36_code, fy_Md_play.cls, 7, fk_rm 3 0 0) K (0, 0) [(b0, .inr (6, [.int (nI mt), .ref b1, .ref b2, .ref b3, .ref b4, .ref b5, .ref b6, .ref b7, .ref b8, .ref b9, .int (nI mf), .ref b10, .ref b11, .ref b12, .int (nI my), .int (nI (Bool.toNat mw)), .ref b13, .ref b14, .ref b15])), fk_ai E b1 20 len, fk_ai E b2 300 e1, fk_ai E b3 2 mc, fk_ai E b4 28 mi, fk_ai E b5 28 mu, fk_ai E b6 2 mfi, fk_ai E b7 2 mla, fk_ai E b8 2 mac, fk_ai E b12 16 t1] 101 [(0, .ref b0), (1, .long (lN tp)), (3, .int (nI n)), (4, .int (nI ab1)), (5, .int (nI l)), (6, .int (nI a2))] [] := by
                        intro fuel
                        induction fuel with
                        | zero => intro l a2 _ _ hm; exact absurd hm (Nat.not_lt_zero _)
                        | succ fuel ih =>
                          intro l a2 h10 h11 hm101
                          have ih101 := ih
                          clear ih
                          have g8 := fp_bt_pos h11
                          have g10 : l < 8 := by
                            have w1 := fs_bc_lt (fs_ens (fr_O mc mu mfi 0) (fr_me mc mi mu mfi mla mac 0) x) g6
                            have w2 := fs_bc_le (fs_ens (fr_O mc mu mfi 0) (fr_me mc mi mu mfi mla mac 0) x) 7
                            have w3 : fp_bt (fs_ens (fr_O mc mu mfi 0) (fr_me mc mi mu mfi mla mac 0) x) (7 - a2) a2 ≤ 7 := g11 a2
                            omega
                          refine fk_aload_n 0 d_Md_play_101 rfl ?_
                          have L116 : (fs_en (fr_O mc mu mfi 0) (fr_me mc mi mu mfi mla mac 0) x a2 = true → 0 < l) → fk_V E (prog_8_method_36_code, fy_Md_play.cls, 7, fk_rm 3 0 0) K (0, 0) [(b0, .inr (6, [.int (nI mt), .ref b1, .ref b2, .ref b3, .ref b4, .ref b5, .ref b6, .ref b7, .ref b8, .ref b9, .int (nI mf), .ref b10, .ref b11, .ref b12, .int (nI my), .int (nI (Bool.toNat mw)), .ref b13, .ref b14, .ref b15])), fk_ai E b1 20 len, fk_ai E b2 300 e1, fk_ai E b3 2 mc, fk_ai E b4 28 mi, fk_ai E b5 28 mu, fk_ai E b6 2 mfi, fk_ai E b7 2 mla, fk_ai E b8 2 mac, fk_ai E b12 16 t1] 116 [(0, .ref b0), (1, .long (lN tp)), (3, .int (nI n)), (4, .int (nI ab1)), (5, .int (nI l)), (6, .int (nI a2))] [] := by
                            intro j2
                            refine fk_iload 4 d_Md_play_116 rfl ?_
                            have L133 : ∀ (v2 : Nat), (v2 = Bool.toNat (fs_en (fr_O mc mu mfi 0) (fr_me mc mi mu mfi mla mac 0) x a2)) → fk_V E (prog_8_method_36_code, fy_Md_play.cls, 7, fk_rm 3 0 0) K (0, 0) [(b0, .inr (6, [.int (nI mt), .ref b1, .ref b2, .ref b3, .ref b4, .ref b5, .ref b6, .ref b7, .ref b8, .ref b9, .int (nI mf), .ref b10, .ref b11, .ref b12, .int (nI my), .int (nI (Bool.toNat mw)), .ref b13, .ref b14, .ref b15])), fk_ai E b1 20 len, fk_ai E b2 300 e1, fk_ai E b3 2 mc, fk_ai E b4 28 mi, fk_ai E b5 28 mu, fk_ai E b6 2 mfi, fk_ai E b7 2 mla, fk_ai E b8 2 mac, fk_ai E b12 16 t1] 133 [(0, .ref b0), (1, .long (lN tp)), (3, .int (nI n)), (4, .int (nI ab1)), (5, .int (nI l)), (6, .int (nI a2))] [.int (nI v2), .int (nI l)] := by
                              intro v2 j3
                              refine fk_isub (a := l) (b := v2) d_Md_play_133 (by rw [j3]; cases w : fs_en (fr_O mc mu mfi 0) (fr_me mc mi mu mfi mla mac 0) x a2 with | false => exact Nat.zero_le _ | true => exact j2 w) ?_
                              refine fk_istore (lv' := [(0, .ref b0), (1, .long (lN tp)), (3, .int (nI n)), (4, .int (nI ab1)), (5, .int (nI (l - v2))), (6, .int (nI a2))]) d_Md_play_134 (Nat.le_of_ble_eq_true rfl) [1, 2, 3, 4, 0, 5] rfl ?_
                              refine fk_iinc (j := 5) (lv' := [(0, .ref b0), (1, .long (lN tp)), (3, .int (nI n)), (4, .int (nI ab1)), (5, .int (nI (l - v2))), (6, .int (nI (a2 + 1)))]) (a2 + 1) d_Md_play_136 rfl (nI_1 a2) (Nat.le_of_ble_eq_true rfl) [1, 2, 3, 4, 5, 0] rfl ?_
                              refine fk_goto d_Md_play_139 rfl ?_
                              refine ih101 _ _ ?_ ?_ ?_
                              · have w := fp_pk_go g8 h10 h11 (by rw [fe_en_bit g8]; exact j2)
                                rw [j3, ← fe_en_bit g8]
                                exact w.1
                              · have w := fp_pk_go g8 h10 h11 (by rw [fe_en_bit g8]; exact j2)
                                rw [j3, ← fe_en_bit g8]
                                exact w.2
                              · omega
                            refine fk_aload_n 0 d_Md_play_118 rfl ?_
                            refine fk_iconst (v := nI 0) d_Md_play_119 (by decide +kernel) ?_
                            refine fk_iload 5 d_Md_play_120 rfl ?_
                            refine fk_callV (q0 := 0) (As := [.int (nI 0), .int (nI a2)]) (rest := [.int (nI l)]) (is := [0, 3, 4, 5, 6, 7, 8, 9]) (ir := [1, 2]) (ip := [2, 0, 1, 3, 4, 5, 6, 7, 8, 9]) (wc := [(b0, .inr (6, [.int (nI mt), .ref b1, .ref b2, .ref b3, .ref b4, .ref b5, .ref b6, .ref b7, .ref b8, .ref b9, .int (nI mf), .ref b10, .ref b11, .ref b12, .int (nI my), .int (nI (Bool.toNat mw)), .ref b13, .ref b14, .ref b15])), fk_ai E b3 2 mc, fk_ai E b4 28 mi, fk_ai E b5 28 mu, fk_ai E b6 2 mfi, fk_ai E b7 2 mla, fk_ai E b8 2 mac, fk_ai E b12 16 t1]) (wr := [fk_ai E b1 20 len, fk_ai E b2 300 e1]) (w2 := fun _ => [(b0, .inr (6, [.int (nI mt), .ref b1, .ref b2, .ref b3, .ref b4, .ref b5, .ref b6, .ref b7, .ref b8, .ref b9, .int (nI mf), .ref b10, .ref b11, .ref b12, .int (nI my), .int (nI (Bool.toNat mw)), .ref b13, .ref b14, .ref b15])), fk_ai E b1 20 len, fk_ai E b2 300 e1, fk_ai E b3 2 mc, fk_ai E b4 28 mi, fk_ai E b5 28 mu, fk_ai E b6 2 mfi, fk_ai E b7 2 mla, fk_ai E b8 2 mac, fk_ai E b12 16 t1]) (cD_enabled E b0 b1 b2 b3 b4 b5 b6 b7 b8 b9 b10 b11 b12 b13 b14 b15 mt mf my mw mc mi mu mfi mla mac t1 0 a2 x (by first | omega | assumption) (by first | omega | assumption) (by first | omega | assumption) (by first | omega | assumption) h3) d_Md_play_122 fz_Md_enabled fw_646 rfl rfl fw_648 fw_p20 ⟨Nat.le_of_ble_eq_true rfl, Nat.le_of_ble_eq_true rfl⟩ rfl (Nat.le_of_ble_eq_true rfl) ⟨Nat.zero_le _, Nat.zero_le _⟩ ⟨rfl, rfl, rfl, rfl, by decide, fun _ => rfl, rfl⟩ (fun u hu122 => ?_)
                            show fk_V E _ K (0, 0) [(b0, .inr (6, [.int (nI mt), .ref b1, .ref b2, .ref b3, .ref b4, .ref b5, .ref b6, .ref b7, .ref b8, .ref b9, .int (nI mf), .ref b10, .ref b11, .ref b12, .int (nI my), .int (nI (Bool.toNat mw)), .ref b13, .ref b14, .ref b15])), fk_ai E b1 20 len, fk_ai E b2 300 e1, fk_ai E b3 2 mc, fk_ai E b4 28 mi, fk_ai E b5 28 mu, fk_ai E b6 2 mfi, fk_ai E b7 2 mla, fk_ai E b8 2 mac, fk_ai E b12 16 t1] 125 [(0, .ref b0), (1, .long (lN tp)), (3, .int (nI n)), (4, .int (nI ab1)), (5, .int (nI l)), (6, .int (nI a2))] [.int (nI (Bool.toNat (fs_en (fr_O mc mu mfi 0) (fr_me mc mi mu mfi mla mac 0) x a2))), .int (nI l)]
                            refine fk_if_eqB (b := (fs_en (fr_O mc mu mfi 0) (fr_me mc mi mu mfi mla mac 0) x a2)) d_Md_play_125 rfl (fun h125t => ?_) (fun h125f => ?_)
                            · refine fk_iconst (v := nI 0) d_Md_play_132 (by decide +kernel) ?_
                              refine L133 _ ?_
                              · first | (rw [h125t]; rfl) | (rw [h125f]; rfl)
                            · refine fk_iconst (v := nI 1) d_Md_play_128 (by decide +kernel) ?_
                              refine fk_goto d_Md_play_129 rfl ?_
                              refine L133 _ ?_
                              · first | (rw [h125t]; rfl) | (rw [h125f]; rfl)
                          refine fk_iconst (v := nI 0) d_Md_play_102 (by decide +kernel) ?_
                          refine fk_iload 5 d_Md_play_103 rfl ?_
                          refine fk_callV (q0 := 0) (As := [.int (nI 0), .int (nI a2)]) (rest := []) (is := [0, 3, 4, 5, 6, 7, 8, 9]) (ir := [1, 2]) (ip := [2, 0, 1, 3, 4, 5, 6, 7, 8, 9]) (wc := [(b0, .inr (6, [.int (nI mt), .ref b1, .ref b2, .ref b3, .ref b4, .ref b5, .ref b6, .ref b7, .ref b8, .ref b9, .int (nI mf), .ref b10, .ref b11, .ref b12, .int (nI my), .int (nI (Bool.toNat mw)), .ref b13, .ref b14, .ref b15])), fk_ai E b3 2 mc, fk_ai E b4 28 mi, fk_ai E b5 28 mu, fk_ai E b6 2 mfi, fk_ai E b7 2 mla, fk_ai E b8 2 mac, fk_ai E b12 16 t1]) (wr := [fk_ai E b1 20 len, fk_ai E b2 300 e1]) (w2 := fun _ => [(b0, .inr (6, [.int (nI mt), .ref b1, .ref b2, .ref b3, .ref b4, .ref b5, .ref b6, .ref b7, .ref b8, .ref b9, .int (nI mf), .ref b10, .ref b11, .ref b12, .int (nI my), .int (nI (Bool.toNat mw)), .ref b13, .ref b14, .ref b15])), fk_ai E b1 20 len, fk_ai E b2 300 e1, fk_ai E b3 2 mc, fk_ai E b4 28 mi, fk_ai E b5 28 mu, fk_ai E b6 2 mfi, fk_ai E b7 2 mla, fk_ai E b8 2 mac, fk_ai E b12 16 t1]) (cD_enabled E b0 b1 b2 b3 b4 b5 b6 b7 b8 b9 b10 b11 b12 b13 b14 b15 mt mf my mw mc mi mu mfi mla mac t1 0 a2 x (by first | omega | assumption) (by first | omega | assumption) (by first | omega | assumption) (by first | omega | assumption) h3) d_Md_play_105 fz_Md_enabled fw_646 rfl rfl fw_648 fw_p20 ⟨Nat.le_of_ble_eq_true rfl, Nat.le_of_ble_eq_true rfl⟩ rfl (Nat.le_of_ble_eq_true rfl) ⟨Nat.zero_le _, Nat.zero_le _⟩ ⟨rfl, rfl, rfl, rfl, by decide, fun _ => rfl, rfl⟩ (fun u hu105 => ?_)
                          show fk_V E _ K (0, 0) [(b0, .inr (6, [.int (nI mt), .ref b1, .ref b2, .ref b3, .ref b4, .ref b5, .ref b6, .ref b7, .ref b8, .ref b9, .int (nI mf), .ref b10, .ref b11, .ref b12, .int (nI my), .int (nI (Bool.toNat mw)), .ref b13, .ref b14, .ref b15])), fk_ai E b1 20 len, fk_ai E b2 300 e1, fk_ai E b3 2 mc, fk_ai E b4 28 mi, fk_ai E b5 28 mu, fk_ai E b6 2 mfi, fk_ai E b7 2 mla, fk_ai E b8 2 mac, fk_ai E b12 16 t1] 108 [(0, .ref b0), (1, .long (lN tp)), (3, .int (nI n)), (4, .int (nI ab1)), (5, .int (nI l)), (6, .int (nI a2))] [.int (nI (Bool.toNat (fs_en (fr_O mc mu mfi 0) (fr_me mc mi mu mfi mla mac 0) x a2)))]
                          refine fk_if_eqB (b := (fs_en (fr_O mc mu mfi 0) (fr_me mc mi mu mfi mla mac 0) x a2)) d_Md_play_108 rfl (fun h108t => ?_) (fun h108f => ?_)
                          · refine L116  ?_
                            · first | (intro w; rw [h108t] at w; exact absurd w (by decide)) | exact fun _ => h113f
                          · refine fk_iload 4 d_Md_play_111 rfl ?_
                            refine fk_if_le (a := l) (by omega) d_Md_play_113 rfl (fun h113t => ?_) (fun h113f => ?_)
                            · have g9 : a2 = fp_ch (fr_O mc mu mfi 0) (fr_me mc mi mu mfi mla mac 0) tp x n := fp_pk_at g8 (by rw [h113t] at h10; exact h10) (by rw [fe_en_bit g8]; exact h108f)
                              refine fk_aload_n 0 d_Md_play_142 rfl ?_
                              refine fk_iconst (v := nI 0) d_Md_play_143 (by decide +kernel) ?_
                              refine fk_iload 5 d_Md_play_144 rfl ?_
                              refine fk_callV (q0 := 0) (As := [.int (nI 0), .int (nI a2)]) (rest := []) (is := [0, 3, 4, 5, 6, 7, 9]) (ir := [1, 2, 8]) (ip := [3, 0, 1, 4, 5, 6, 7, 8, 2, 9]) (wc := [(b0, .inr (6, [.int (nI mt), .ref b1, .ref b2, .ref b3, .ref b4, .ref b5, .ref b6, .ref b7, .ref b8, .ref b9, .int (nI mf), .ref b10, .ref b11, .ref b12, .int (nI my), .int (nI (Bool.toNat mw)), .ref b13, .ref b14, .ref b15])), fk_ai E b3 2 mc, fk_ai E b4 28 mi, fk_ai E b5 28 mu, fk_ai E b6 2 mfi, fk_ai E b7 2 mla, fk_ai E b12 16 t1]) (wr := [fk_ai E b1 20 len, fk_ai E b2 300 e1, fk_ai E b8 2 mac]) (w2 := fun u => [(b0, .inr (6, [.int (nI mt), .ref b1, .ref b2, .ref b3, .ref b4, .ref b5, .ref b6, .ref b7, .ref b8, .ref b9, .int (nI mf), .ref b10, .ref b11, .ref b12, .int (nI my), .int (nI (Bool.toNat mw)), .ref b13, .ref b14, .ref b15])), fk_ai E b1 20 len, fk_ai E b2 300 e1, fk_ai E b3 2 mc, fk_ai E b4 28 mi, fk_ai E b5 28 mu, fk_ai E b6 2 mfi, fk_ai E b7 2 mla, fk_ai E b8 2 mac, fk_ai E b12 16 u]) (cD_fire E b0 b1 b2 b3 b4 b5 b6 b7 b8 b9 b10 b11 b12 b13 b14 b15 mt mf my mw mc mi mu mfi mla mac t1 0 a2 x (by first | omega | assumption) (by first | omega | assumption) (by first | omega | assumption) h3 (fs_en_can h108f)) d_Md_play_146 fz_Md_fire fw_658 rfl rfl fw_660 fw_p23 ⟨Nat.le_of_ble_eq_true rfl, Nat.le_of_ble_eq_true rfl⟩ rfl (Nat.le_of_ble_eq_true rfl) ⟨Nat.zero_le _, Nat.zero_le _⟩ ⟨rfl, rfl, rfl, rfl, by decide, fun _ => rfl, rfl⟩ (fun u hu146 => ?_)
                              obtain ⟨tk9_146, rfl⟩ : ∃ z, z = u := ⟨_, rfl⟩
                              have hq146 : ∀ z, z < 16 → tk9_146 z = fm_dg x (fr_cp z) - Bool.toNat (fs_tak (fr_O mc mu mfi 0) a2 (fr_cp z)) + Bool.toNat (fs_tak (fr_I mc mi mla 0) a2 (fr_cp z)) := hu146
                              show fk_V E _ K (0, 0) [(b0, .inr (6, [.int (nI mt), .ref b1, .ref b2, .ref b3, .ref b4, .ref b5, .ref b6, .ref b7, .ref b8, .ref b9, .int (nI mf), .ref b10, .ref b11, .ref b12, .int (nI my), .int (nI (Bool.toNat mw)), .ref b13, .ref b14, .ref b15])), fk_ai E b1 20 len, fk_ai E b2 300 e1, fk_ai E b3 2 mc, fk_ai E b4 28 mi, fk_ai E b5 28 mu, fk_ai E b6 2 mfi, fk_ai E b7 2 mla, fk_ai E b8 2 mac, fk_ai E b12 16 tk9_146] 149 [(0, .ref b0), (1, .long (lN tp)), (3, .int (nI n)), (4, .int (nI ab1)), (5, .int (nI l)), (6, .int (nI a2))] []
                              refine fk_aload_n 0 d_Md_play_149 rfl ?_
                              refine fk_get 0 2 rfl rfl fh_Md (Nat.le_of_ble_eq_true rfl) fw_509 rfl d_Md_play_150 ?_
                              refine fk_bipush (v := nI 15) d_Md_play_153 (by decide +kernel) ?_
                              refine fk_aload_n 0 d_Md_play_155 rfl ?_
                              refine fk_get 0 0 rfl rfl fh_Md (Nat.le_of_ble_eq_true rfl) fw_507 rfl d_Md_play_156 ?_
                              refine fk_imul (a := 15) (b := mt) d_Md_play_159 ?_
                              refine fk_iload_n 2 d_Md_play_160 rfl ?_
                              refine fk_iadd (a := (15 * mt)) (b := n) d_Md_play_161 ?_
                              refine fk_iload 5 d_Md_play_162 rfl ?_
                              refine fk_st_ai (i := ((15 * mt) + n)) (x := a2) (w' := [(b0, .inr (6, [.int (nI mt), .ref b1, .ref b2, .ref b3, .ref b4, .ref b5, .ref b6, .ref b7, .ref b8, .ref b9, .int (nI mf), .ref b10, .ref b11, .ref b12, .int (nI my), .int (nI (Bool.toNat mw)), .ref b13, .ref b14, .ref b15])), fk_ai E b1 20 len, fk_ai E b2 300 (va_up e1 ((15 * mt) + n) a2), fk_ai E b3 2 mc, fk_ai E b4 28 mi, fk_ai E b5 28 mu, fk_ai E b6 2 mfi, fk_ai E b7 2 mla, fk_ai E b8 2 mac, fk_ai E b12 16 tk9_146]) 2 rfl (by omega) (by decide) d_Md_play_164 rfl ?_
                              refine fk_iinc (j := 2) (lv' := [(0, .ref b0), (1, .long (lN tp)), (3, .int (nI (n + 1))), (4, .int (nI ab1)), (5, .int (nI l)), (6, .int (nI a2))]) (n + 1) d_Md_play_165 rfl (nI_1 n) (Nat.le_of_ble_eq_true rfl) [1, 2, 0, 3, 4, 5] rfl ?_
                              refine fk_goto d_Md_play_168 rfl ?_
                              refine fk_lv (lv' := [(0, .ref b0), (1, .long (lN tp)), (3, .int (nI (n + 1))), (4, .int (nI ab1))]) [0, 1, 2, 3] rfl ?_
                              refine ih21 _ _ (fs_fire (fr_O mc mu mfi 0) (fr_I mc mi mla 0) x a2) _ _ ?_ ?_ ?_ ?_ ?_ ?_ ?_ ?_ ?_
                              · first | omega | assumption | exact Nat.zero_le _
                              · have w := fp_R_s h2 h24f (of_decide_eq_false h36f) g5
                                rw [g9]
                                obtain ⟨f, w1, w2⟩ := w
                                refine ⟨f, w1, fun z hz => ?_⟩
                                have w3 := w2 z hz
                                rw [← w3]
                                show va_up e1 (15 * mt + n) _ (15 * mt + z) = va_up (fun z => e1 (15 * mt + z)) n _ z
                                by_cases w4 : z = n
                                · rw [w4, va_up_self, va_up_self]
                                · rw [va_up_ne _ _ (by omega), va_up_ne _ _ w4]
                              · exact fr_T_fire (fr_I0 _ _ _ _) h4 h24f hq146
                              · exact (fp_fire (fr_I0 _ _ _ _) h4 h24f).1
                              · exact fun w => absurd w (by omega)
                              · first | omega | assumption | exact Nat.zero_le _
                              · intro k hk
                                rw [va_up_ne _ _ (by omega)]
                                exact h6 k hk
                              · intro z hz
                                rcases Nat.lt_or_ge z n with w | w
                                · rw [va_up_ne _ _ (by omega)]; exact h7 z w
                                · rw [show z = n by omega, va_up_self]; exact g8
                              · rw [if_pos h29f] at hm21
                                rw [if_pos (show 0 < ab1 by omega)]
                                omega
                            · refine L116  ?_
                              · first | (intro w; rw [h108t] at w; exact absurd w (by decide)) | exact fun _ => h113f
                      refine L101 _ _ _ ?_ ?_ (Nat.lt_succ_self _)
                      · rw [g3]
                        rfl
                      · show _ < fp_bt (fs_ens (fr_O mc mu mfi 0) (fr_me mc mi mu mfi mla mac 0) x) 7 0
                        rw [fp_bt_bc _ g6, ← g3]
                        exact Nat.mod_lt _ h80f
                  · have L69 : ∀ (v : Nat), (v = Bool.toNat (fs_en (fr_O mc mu mfi 0) (fr_me mc mi mu mfi mla mac 0) x a)) → fk_V E (prog_8_method_36_code, fy_Md_play.cls, 7, fk_rm 3 0 0) K (0, 0) [(b0, .inr (6, [.int (nI mt), .ref b1, .ref b2, .ref b3, .ref b4, .ref b5, .ref b6, .ref b7, .ref b8, .ref b9, .int (nI mf), .ref b10, .ref b11, .ref b12, .int (nI my), .int (nI (Bool.toNat mw)), .ref b13, .ref b14, .ref b15])), fk_ai E b1 20 len, fk_ai E b2 300 e1, fk_ai E b3 2 mc, fk_ai E b4 28 mi, fk_ai E b5 28 mu, fk_ai E b6 2 mfi, fk_ai E b7 2 mla, fk_ai E b8 2 mac, fk_ai E b12 16 t1] 69 [(0, .ref b0), (1, .long (lN tp)), (3, .int (nI n)), (4, .int (nI ab1)), (5, .int (nI a))] [.int (nI v), .int (nI ab1)] := by
                      intro v j1
                      refine fk_iadd (a := ab1) (b := v) d_Md_play_69 ?_
                      refine fk_istore (lv' := [(0, .ref b0), (1, .long (lN tp)), (3, .int (nI n)), (4, .int (nI (ab1 + v))), (5, .int (nI a))]) d_Md_play_70 (Nat.le_of_ble_eq_true rfl) [1, 2, 3, 0, 4] rfl ?_
                      refine fk_iinc (j := 4) (lv' := [(0, .ref b0), (1, .long (lN tp)), (3, .int (nI n)), (4, .int (nI (ab1 + v))), (5, .int (nI (a + 1)))]) (a + 1) d_Md_play_72 rfl (nI_1 a) (Nat.le_of_ble_eq_true rfl) [1, 2, 3, 4, 0] rfl ?_
                      refine fk_goto d_Md_play_75 rfl ?_
                      refine ih45 _ _ ?_ ?_ ?_
                      · first | omega | assumption | exact Nat.zero_le _
                      · rw [j1, h9, fs_bc_s, fe_en_bit h49f]
                      · omega
                    refine fk_iload 3 d_Md_play_52 rfl ?_
                    refine fk_aload_n 0 d_Md_play_54 rfl ?_
                    refine fk_iconst (v := nI 0) d_Md_play_55 (by decide +kernel) ?_
                    refine fk_iload 4 d_Md_play_56 rfl ?_
                    refine fk_callV (q0 := 0) (As := [.int (nI 0), .int (nI a)]) (rest := [.int (nI ab1)]) (is := [0, 3, 4, 5, 6, 7, 8, 9]) (ir := [1, 2]) (ip := [2, 0, 1, 3, 4, 5, 6, 7, 8, 9]) (wc := [(b0, .inr (6, [.int (nI mt), .ref b1, .ref b2, .ref b3, .ref b4, .ref b5, .ref b6, .ref b7, .ref b8, .ref b9, .int (nI mf), .ref b10, .ref b11, .ref b12, .int (nI my), .int (nI (Bool.toNat mw)), .ref b13, .ref b14, .ref b15])), fk_ai E b3 2 mc, fk_ai E b4 28 mi, fk_ai E b5 28 mu, fk_ai E b6 2 mfi, fk_ai E b7 2 mla, fk_ai E b8 2 mac, fk_ai E b12 16 t1]) (wr := [fk_ai E b1 20 len, fk_ai E b2 300 e1]) (w2 := fun _ => [(b0, .inr (6, [.int (nI mt), .ref b1, .ref b2, .ref b3, .ref b4, .ref b5, .ref b6, .ref b7, .ref b8, .ref b9, .int (nI mf), .ref b10, .ref b11, .ref b12, .int (nI my), .int (nI (Bool.toNat mw)), .ref b13, .ref b14, .ref b15])), fk_ai E b1 20 len, fk_ai E b2 300 e1, fk_ai E b3 2 mc, fk_ai E b4 28 mi, fk_ai E b5 28 mu, fk_ai E b6 2 mfi, fk_ai E b7 2 mla, fk_ai E b8 2 mac, fk_ai E b12 16 t1]) (cD_enabled E b0 b1 b2 b3 b4 b5 b6 b7 b8 b9 b10 b11 b12 b13 b14 b15 mt mf my mw mc mi mu mfi mla mac t1 0 a x (by first | omega | assumption) (by first | omega | assumption) (by first | omega | assumption) (by first | omega | assumption) h3) d_Md_play_58 fz_Md_enabled fw_646 rfl rfl fw_648 fw_p20 ⟨Nat.le_of_ble_eq_true rfl, Nat.le_of_ble_eq_true rfl⟩ rfl (Nat.le_of_ble_eq_true rfl) ⟨Nat.zero_le _, Nat.zero_le _⟩ ⟨rfl, rfl, rfl, rfl, by decide, fun _ => rfl, rfl⟩ (fun u hu58 => ?_)
                    show fk_V E _ K (0, 0) [(b0, .inr (6, [.int (nI mt), .ref b1, .ref b2, .ref b3, .ref b4, .ref b5, .ref b6, .ref b7, .ref b8, .ref b9, .int (nI mf), .ref b10, .ref b11, .ref b12, .int (nI my), .int (nI (Bool.toNat mw)), .ref b13, .ref b14, .ref b15])), fk_ai E b1 20 len, fk_ai E b2 300 e1, fk_ai E b3 2 mc, fk_ai E b4 28 mi, fk_ai E b5 28 mu, fk_ai E b6 2 mfi, fk_ai E b7 2 mla, fk_ai E b8 2 mac, fk_ai E b12 16 t1] 61 [(0, .ref b0), (1, .long (lN tp)), (3, .int (nI n)), (4, .int (nI ab1)), (5, .int (nI a))] [.int (nI (Bool.toNat (fs_en (fr_O mc mu mfi 0) (fr_me mc mi mu mfi mla mac 0) x a))), .int (nI ab1)]
                    refine fk_if_eqB (b := (fs_en (fr_O mc mu mfi 0) (fr_me mc mi mu mfi mla mac 0) x a)) d_Md_play_61 rfl (fun h61t => ?_) (fun h61f => ?_)
                    · refine fk_iconst (v := nI 0) d_Md_play_68 (by decide +kernel) ?_
                      refine L69 _ ?_
                      · first | (rw [h61t]; rfl) | (rw [h61f]; rfl)
                    · refine fk_iconst (v := nI 1) d_Md_play_64 (by decide +kernel) ?_
                      refine fk_goto d_Md_play_65 rfl ?_
                      refine L69 _ ?_
                      · first | (rw [h61t]; rfl) | (rw [h61f]; rfl)
              refine L45 _ _ _ ?_ ?_ (Nat.lt_succ_self _)
              · first | omega | assumption | exact Nat.zero_le _
              · rfl
    refine L21 _ _ _ 1 _ _ ?_ ?_ ?_ ?_ ?_ ?_ ?_ ?_ (Nat.lt_succ_self _)
    · first | omega | assumption | exact Nat.zero_le _
    · exact fp_R_0 _ _ _ _ _
    · exact hq13
    · exact fp_bd_0
    · exact fun w => absurd w (by decide)
    · first | omega | assumption | exact Nat.zero_le _
    · exact fun _ _ => rfl
    · exact fun z hz => absurd hz (Nat.not_lt_zero z)
  · omega
