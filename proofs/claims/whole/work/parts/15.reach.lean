theorem fk_iincV {E : fk_E} {M : fk_M} {K : fk_K} {n : Nat × Nat} {w : va_W} {pc : Nat} {lv : List (Nat × Value)} {st : List Value} {i j : Nat} {k : Int} {x v : Int32} {lv' : List (Nat × Value)} (d : decode M.1 pc = .ok (.iinc i k, 3)) (hk : lv[j]? = some (i, .int x)) (hv : x + Int32.ofInt k = v) (hn : i < M.2.2.1) (ks : List Nat) (h : lv_pick ((i, Value.int v) :: lv.filter (fun q => !(q.1 == i) && !(q.1 + 1 == i && q.2.category == 2))) ks = lv') (kk : fk_V E M K n w (pc + 3) lv' st) : fk_V E M K n w pc lv st := by
  obtain ⟨p, l, e, s, m, args, below, meth, c, Q, A⟩ := K
  intro F h1 h2 H locs ls hl hP hD hS
  exact lv_iinc F.1 F.2.1 d hl hk hv hn rfl (fun ls' hl' => kk F h1 h2 H locs ls' (lv_sub hl' ks h) hP hD hS)
theorem fn_decJ {a : Nat} (h : 0 < a) : nI a - 1 + Int32.ofInt (-1) = nI (a - 1) - 1 := by
  rw [fn_jn h, show Int32.ofInt (-1) = -1 from by decide +kernel]
  exact (Int32.sub_eq_add_neg _ _).symm
set_option maxRecDepth 20000 in
set_option maxHeartbeats 4000000 in
theorem cA_fillM (E : fk_E) (a : Nat) (N : Nat) (v : Nat) (g : Nat → Nat) (hN : N < 2 ^ 31) : fk_C E fy_Ar_fillI prog_10_method_103_code 4 none 0 0 0 [.ref a, .int (nI v - 1)] [fk_aj E a N g] (S := (Nat → Nat)) (fun (u : (Nat → Nat)) => none) (fun (u : (Nat → Nat)) => ∀ k, k < N → u k = v) (fun (u : (Nat → Nat)) => [fk_aj E a N u]) := by
  refine fk_enterV (by decide) (Nat.le_of_ble_eq_true rfl) (lv0 := [(0, .ref a), (1, .int (nI v - 1))]) rfl ?_
  intro K hini hret
  refine fk_iconst (v := nI 0) d_Ar_fillI_0 (by decide +kernel) ?_
  refine fk_istore_n (lv' := [(0, .ref a), (1, .int (nI v - 1)), (2, .int (nI 0))]) d_Ar_fillI_1 rfl (Nat.le_of_ble_eq_true rfl) [1, 2, 0] rfl ?_
  refine fk_aload_n 0 d_Ar_fillI_2 rfl ?_
  refine fk_alen (t0 := 0) 0 rfl rfl d_Ar_fillI_3 ?_
  refine fk_istore_n (lv' := [(0, .ref a), (1, .int (nI v - 1)), (2, .int (nI 0)), (3, .int (nI N))]) d_Ar_fillI_4 rfl (Nat.le_of_ble_eq_true rfl) [1, 2, 3, 0] rfl ?_
  have L5 : ∀ (fuel : Nat) (i : Nat) (g1 : Nat → Nat), (i ≤ N) → (∀ k, k < i → g1 k = v) → N - i < fuel → fk_V E (prog_10_method_103_code, fy_Ar_fillI.cls, 4, fk_rm 0 0 0) K (0, 0) [fk_aj E a N g1] 5 [(0, .ref a), (1, .int (nI v - 1)), (2, .int (nI i)), (3, .int (nI N))] [] := by
    intro fuel
    induction fuel with
    | zero => intro i g1 _ _ hm; exact absurd hm (Nat.not_lt_zero _)
    | succ fuel ih =>
      intro i g1 hi hg hm5
      have ih5 := ih
      clear ih
      refine fk_iload_n 2 d_Ar_fillI_5 rfl ?_
      refine fk_iload_n 3 d_Ar_fillI_6 rfl ?_
      refine fk_icmp_ge (a := i) (b := N) (by omega) (by omega) d_Ar_fillI_7 rfl (fun h7t => ?_) (fun h7f => ?_)
      · exact hret (0, 0) _ 20 _ g1 d_Ar_fillI_20 (fun k hk => hg k (by omega)) (rfl)
      · refine fk_aload_n 0 d_Ar_fillI_10 rfl ?_
        refine fk_iload_n 2 d_Ar_fillI_11 rfl ?_
        refine fk_iload_n 1 d_Ar_fillI_12 rfl ?_
        refine fk_st_aj (i := i) (x := v) (w' := [fk_aj E a N (va_up g1 i v)]) 0 rfl (by omega) (by omega) d_Ar_fillI_13 rfl ?_
        refine fk_iinc (j := 2) (lv' := [(0, .ref a), (1, .int (nI v - 1)), (2, .int (nI (i + 1))), (3, .int (nI N))]) (i + 1) d_Ar_fillI_14 rfl (nI_1 i) (Nat.le_of_ble_eq_true rfl) [1, 2, 0, 3] rfl ?_
        refine fk_goto d_Ar_fillI_17 rfl ?_
        refine ih5 _ _ ?_ ?_ ?_
        · first | omega | assumption | exact Nat.zero_le _
        · intro k hk
          by_cases e : k = i
          · subst e
            exact va_up_self _ _ _
          · rw [va_up_ne _ _ e]
            exact hg k (by omega)
        · omega
  refine L5 _ _ _ ?_ ?_ (Nat.lt_succ_self _)
  · first | omega | assumption | exact Nat.zero_le _
  · exact fun k hk => absurd hk (Nat.not_lt_zero k)
theorem d_Re_markingCount_0 : decode prog_6_method_2_code 0 = .ok (.aload_n 0, 1) := by decide +kernel
theorem d_Re_markingCount_1 : decode prog_6_method_2_code 1 = .ok (.getfield 26, 3) := by decide +kernel
theorem d_Re_markingCount_4 : decode prog_6_method_2_code 4 = .ok (.ireturn, 1) := by decide +kernel
set_option maxRecDepth 20000 in
set_option maxHeartbeats 4000000 in
theorem cR_markingCount (E : fk_E) (r0 : Nat) (r1 : Nat) (r2 : Nat) (r3 : Nat) (r4 : Nat) (c : Nat) (ev : Nat)  : fk_C E fy_Re_markingCount prog_6_method_2_code 1 (some .int) 0 0 0 [.ref r0] [(r0, .inr (4, [.ref r1, .ref r2, .ref r3, .ref r4, .int (nI c), .int (nI ev)]))] (S := Unit) (fun _ => some (.int (nI c))) (fun _ => True) (fun _ => [(r0, .inr (4, [.ref r1, .ref r2, .ref r3, .ref r4, .int (nI c), .int (nI ev)]))]) := by
  refine fk_enterI (v := fun _ => (nI c)) (by decide) (Nat.le_of_ble_eq_true rfl) (lv0 := [(0, .ref r0)]) rfl ?_
  intro K hini hret
  refine fk_aload_n 0 d_Re_markingCount_0 rfl ?_
  refine fk_get 0 4 rfl rfl fh_Re (Nat.le_of_ble_eq_true rfl) fw_106 rfl d_Re_markingCount_1 ?_
  exact hret (0, 0) _ 4 _ () d_Re_markingCount_4 (trivial) (rfl)
theorem d_Re_addAt_0 : decode prog_6_method_6_code 0 = .ok (.aload_n 0, 1) := by decide +kernel
theorem d_Re_addAt_1 : decode prog_6_method_6_code 1 = .ok (.getfield 26, 3) := by decide +kernel
theorem d_Re_addAt_4 : decode prog_6_method_6_code 4 = .ok (.sipush 200, 3) := by decide +kernel
theorem d_Re_addAt_7 : decode prog_6_method_6_code 7 = .ok (.if_icmp .ne 5, 3) := by decide +kernel
theorem d_Re_addAt_10 : decode prog_6_method_6_code 10 = .ok (.iconst (-1), 1) := by decide +kernel
theorem d_Re_addAt_11 : decode prog_6_method_6_code 11 = .ok (.ireturn, 1) := by decide +kernel
theorem d_Re_addAt_12 : decode prog_6_method_6_code 12 = .ok (.aload_n 0, 1) := by decide +kernel
theorem d_Re_addAt_13 : decode prog_6_method_6_code 13 = .ok (.getfield 9, 3) := by decide +kernel
theorem d_Re_addAt_16 : decode prog_6_method_6_code 16 = .ok (.aload_n 0, 1) := by decide +kernel
theorem d_Re_addAt_17 : decode prog_6_method_6_code 17 = .ok (.getfield 26, 3) := by decide +kernel
theorem d_Re_addAt_20 : decode prog_6_method_6_code 20 = .ok (.lload_n 2, 1) := by decide +kernel
theorem d_Re_addAt_21 : decode prog_6_method_6_code 21 = .ok (.lastore, 1) := by decide +kernel
theorem d_Re_addAt_22 : decode prog_6_method_6_code 22 = .ok (.aload_n 0, 1) := by decide +kernel
theorem d_Re_addAt_23 : decode prog_6_method_6_code 23 = .ok (.getfield 15, 3) := by decide +kernel
theorem d_Re_addAt_26 : decode prog_6_method_6_code 26 = .ok (.iload_n 1, 1) := by decide +kernel
theorem d_Re_addAt_27 : decode prog_6_method_6_code 27 = .ok (.aload_n 0, 1) := by decide +kernel
theorem d_Re_addAt_28 : decode prog_6_method_6_code 28 = .ok (.getfield 26, 3) := by decide +kernel
theorem d_Re_addAt_31 : decode prog_6_method_6_code 31 = .ok (.iastore, 1) := by decide +kernel
theorem d_Re_addAt_32 : decode prog_6_method_6_code 32 = .ok (.aload_n 0, 1) := by decide +kernel
theorem d_Re_addAt_33 : decode prog_6_method_6_code 33 = .ok (.dup, 1) := by decide +kernel
theorem d_Re_addAt_34 : decode prog_6_method_6_code 34 = .ok (.getfield 26, 3) := by decide +kernel
theorem d_Re_addAt_37 : decode prog_6_method_6_code 37 = .ok (.iconst 1, 1) := by decide +kernel
theorem d_Re_addAt_38 : decode prog_6_method_6_code 38 = .ok (.iadd, 1) := by decide +kernel
theorem d_Re_addAt_39 : decode prog_6_method_6_code 39 = .ok (.putfield 26, 3) := by decide +kernel
theorem d_Re_addAt_42 : decode prog_6_method_6_code 42 = .ok (.aload_n 0, 1) := by decide +kernel
theorem d_Re_addAt_43 : decode prog_6_method_6_code 43 = .ok (.getfield 26, 3) := by decide +kernel
theorem d_Re_addAt_46 : decode prog_6_method_6_code 46 = .ok (.iconst 1, 1) := by decide +kernel
theorem d_Re_addAt_47 : decode prog_6_method_6_code 47 = .ok (.isub, 1) := by decide +kernel
theorem d_Re_addAt_48 : decode prog_6_method_6_code 48 = .ok (.ireturn, 1) := by decide +kernel
set_option maxRecDepth 20000 in
set_option maxHeartbeats 4000000 in
theorem cR_addAtF (E : fk_E) (r0 : Nat) (r1 : Nat) (r2 : Nat) (r3 : Nat) (r4 : Nat) (c : Nat) (ev : Nat) (sn : Nat → Nat) (sl : Nat → Nat) (q : Nat) (y : Nat) (hc : c = 200) : fk_C E fy_Re_addAt prog_6_method_6_code 4 (some .int) 0 0 0 [.ref r0, .int (nI q), .long (lN y)] [(r0, .inr (4, [.ref r1, .ref r2, .ref r3, .ref r4, .int (nI c), .int (nI ev)])), fk_al E r1 200 sn, fk_aj E r2 512 sl] (S := Unit) (fun _ => some (.int (nI 0 - 1))) (fun _ => True) (fun _ => [(r0, .inr (4, [.ref r1, .ref r2, .ref r3, .ref r4, .int (nI c), .int (nI ev)])), fk_al E r1 200 sn, fk_aj E r2 512 sl]) := by
  refine fk_enterI (v := fun _ => (nI 0 - 1)) (by decide) (Nat.le_of_ble_eq_true rfl) (lv0 := [(0, .ref r0), (1, .int (nI q)), (2, .long (lN y))]) rfl ?_
  intro K hini hret
  refine fk_aload_n 0 d_Re_addAt_0 rfl ?_
  refine fk_get 0 4 rfl rfl fh_Re (Nat.le_of_ble_eq_true rfl) fw_106 rfl d_Re_addAt_1 ?_
  refine fk_sipush (v := nI 200) d_Re_addAt_4 (by decide +kernel) ?_
  refine fk_icmp_ne (a := c) (b := 200) (by omega) (by omega) d_Re_addAt_7 rfl (fun h7t => ?_) (fun h7f => ?_)
  · exact absurd hc h7t
  · refine fk_iconst (v := nI 0 - 1) d_Re_addAt_10 (by decide +kernel) ?_
    exact hret (0, 0) _ 11 _ () d_Re_addAt_11 (trivial) (rfl)
set_option maxRecDepth 20000 in
set_option maxHeartbeats 4000000 in
theorem cR_addAt (E : fk_E) (r0 : Nat) (r1 : Nat) (r2 : Nat) (r3 : Nat) (r4 : Nat) (c : Nat) (ev : Nat) (sn : Nat → Nat) (sl : Nat → Nat) (q : Nat) (y : Nat) (hc : c < 200) (hq : q < 512) : fk_C E fy_Re_addAt prog_6_method_6_code 4 (some .int) 0 0 0 [.ref r0, .int (nI q), .long (lN y)] [(r0, .inr (4, [.ref r1, .ref r2, .ref r3, .ref r4, .int (nI c), .int (nI ev)])), fk_al E r1 200 sn, fk_aj E r2 512 sl] (S := Unit) (fun _ => some (.int (nI (c + 1) - 1))) (fun _ => True) (fun _ => [(r0, .inr (4, [.ref r1, .ref r2, .ref r3, .ref r4, .int (nI (c + 1)), .int (nI ev)])), fk_al E r1 200 (va_up sn c y), fk_aj E r2 512 (va_up sl q (c + 1))]) := by
  refine fk_enterI (v := fun _ => (nI (c + 1) - 1)) (by decide) (Nat.le_of_ble_eq_true rfl) (lv0 := [(0, .ref r0), (1, .int (nI q)), (2, .long (lN y))]) rfl ?_
  intro K hini hret
  refine fk_aload_n 0 d_Re_addAt_0 rfl ?_
  refine fk_get 0 4 rfl rfl fh_Re (Nat.le_of_ble_eq_true rfl) fw_106 rfl d_Re_addAt_1 ?_
  refine fk_sipush (v := nI 200) d_Re_addAt_4 (by decide +kernel) ?_
  refine fk_icmp_ne (a := c) (b := 200) (by omega) (by omega) d_Re_addAt_7 rfl (fun h7t => ?_) (fun h7f => ?_)
  · refine fk_aload_n 0 d_Re_addAt_12 rfl ?_
    refine fk_get 0 0 rfl rfl fh_Re (Nat.le_of_ble_eq_true rfl) fw_102 rfl d_Re_addAt_13 ?_
    refine fk_aload_n 0 d_Re_addAt_16 rfl ?_
    refine fk_get 0 4 rfl rfl fh_Re (Nat.le_of_ble_eq_true rfl) fw_106 rfl d_Re_addAt_17 ?_
    refine fk_lload_n 2 d_Re_addAt_20 rfl ?_
    refine fk_st_al (i := c) (x := y) (w' := [(r0, .inr (4, [.ref r1, .ref r2, .ref r3, .ref r4, .int (nI c), .int (nI ev)])), fk_al E r1 200 (va_up sn c y), fk_aj E r2 512 sl]) 1 rfl (by omega) (by decide) d_Re_addAt_21 rfl ?_
    refine fk_aload_n 0 d_Re_addAt_22 rfl ?_
    refine fk_get 0 1 rfl rfl fh_Re (Nat.le_of_ble_eq_true rfl) fw_103 rfl d_Re_addAt_23 ?_
    refine fk_iload_n 1 d_Re_addAt_26 rfl ?_
    refine fk_aload_n 0 d_Re_addAt_27 rfl ?_
    refine fk_get 0 4 rfl rfl fh_Re (Nat.le_of_ble_eq_true rfl) fw_106 rfl d_Re_addAt_28 ?_
    refine fk_top (show nI c = nI (c + 1) - 1 from (nI_pred _).symm) ?_
    refine fk_st_aj (i := q) (x := (c + 1)) (w' := [(r0, .inr (4, [.ref r1, .ref r2, .ref r3, .ref r4, .int (nI c), .int (nI ev)])), fk_al E r1 200 (va_up sn c y), fk_aj E r2 512 (va_up sl q (c + 1))]) 2 rfl (by omega) (by decide) d_Re_addAt_31 rfl ?_
    refine fk_aload_n 0 d_Re_addAt_32 rfl ?_
    refine fk_dup d_Re_addAt_33 rfl ?_
    refine fk_get 0 4 rfl rfl fh_Re (Nat.le_of_ble_eq_true rfl) fw_106 rfl d_Re_addAt_34 ?_
    refine fk_iconst (v := nI 1) d_Re_addAt_37 (by decide +kernel) ?_
    refine fk_iadd (a := c) (b := 1) d_Re_addAt_38 ?_
    refine fk_put (w' := [(r0, .inr (4, [.ref r1, .ref r2, .ref r3, .ref r4, .int (nI (c + 1)), .int (nI ev)])), fk_al E r1 200 (va_up sn c y), fk_aj E r2 512 (va_up sl q (c + 1))]) 0 4 fT_Re fT_Re_ok fT_Re_nm rfl rfl fh_Re (Nat.le_of_ble_eq_true rfl) fw_106 rfl (fT_Re_ok 4 (Nat.le_of_ble_eq_true rfl)) rfl rfl (Nat.le_of_ble_eq_true rfl) d_Re_addAt_39 rfl ?_
    refine fk_aload_n 0 d_Re_addAt_42 rfl ?_
    refine fk_get 0 4 rfl rfl fh_Re (Nat.le_of_ble_eq_true rfl) fw_106 rfl d_Re_addAt_43 ?_
    refine fk_iconst (v := nI 1) d_Re_addAt_46 (by decide +kernel) ?_
    refine fk_isub (a := (c + 1)) (b := 1) d_Re_addAt_47 (by omega) ?_
    refine fk_top (show (nI ((c + 1) - 1)) = (nI (c + 1) - 1) from by rw [Nat.add_sub_cancel]; exact (nI_pred c).symm) ?_
    exact hret (0, 0) _ 48 _ () d_Re_addAt_48 (trivial) (rfl)
  · omega
theorem d_Re_indexOf_0 : decode prog_6_method_5_code 0 = .ok (.lload_n 1, 1) := by decide +kernel
theorem d_Re_indexOf_1 : decode prog_6_method_5_code 1 = .ok (.ldc2_w 62, 3) := by decide +kernel
theorem d_Re_indexOf_4 : decode prog_6_method_5_code 4 = .ok (.lmul, 1) := by decide +kernel
theorem d_Re_indexOf_5 : decode prog_6_method_5_code 5 = .ok (.bipush 55, 2) := by decide +kernel
theorem d_Re_indexOf_7 : decode prog_6_method_5_code 7 = .ok (.lushr, 1) := by decide +kernel
theorem d_Re_indexOf_8 : decode prog_6_method_5_code 8 = .ok (.l2i, 1) := by decide +kernel
theorem d_Re_indexOf_9 : decode prog_6_method_5_code 9 = .ok (.istore_n 3, 1) := by decide +kernel
theorem d_Re_indexOf_10 : decode prog_6_method_5_code 10 = .ok (.iconst 0, 1) := by decide +kernel
theorem d_Re_indexOf_11 : decode prog_6_method_5_code 11 = .ok (.istore 4, 2) := by decide +kernel
theorem d_Re_indexOf_13 : decode prog_6_method_5_code 13 = .ok (.iload 4, 2) := by decide +kernel
theorem d_Re_indexOf_15 : decode prog_6_method_5_code 15 = .ok (.sipush 512, 3) := by decide +kernel
theorem d_Re_indexOf_18 : decode prog_6_method_5_code 18 = .ok (.if_icmp .ge 53, 3) := by decide +kernel
theorem d_Re_indexOf_21 : decode prog_6_method_5_code 21 = .ok (.aload_n 0, 1) := by decide +kernel
theorem d_Re_indexOf_22 : decode prog_6_method_5_code 22 = .ok (.getfield 15, 3) := by decide +kernel
theorem d_Re_indexOf_25 : decode prog_6_method_5_code 25 = .ok (.iload_n 3, 1) := by decide +kernel
theorem d_Re_indexOf_26 : decode prog_6_method_5_code 26 = .ok (.iaload, 1) := by decide +kernel
theorem d_Re_indexOf_27 : decode prog_6_method_5_code 27 = .ok (.istore 5, 2) := by decide +kernel
theorem d_Re_indexOf_29 : decode prog_6_method_5_code 29 = .ok (.iload 5, 2) := by decide +kernel
theorem d_Re_indexOf_31 : decode prog_6_method_5_code 31 = .ok (.iconst (-1), 1) := by decide +kernel
theorem d_Re_indexOf_32 : decode prog_6_method_5_code 32 = .ok (.if_icmp .ne 10, 3) := by decide +kernel
theorem d_Re_indexOf_35 : decode prog_6_method_5_code 35 = .ok (.aload_n 0, 1) := by decide +kernel
theorem d_Re_indexOf_36 : decode prog_6_method_5_code 36 = .ok (.iload_n 3, 1) := by decide +kernel
theorem d_Re_indexOf_37 : decode prog_6_method_5_code 37 = .ok (.lload_n 1, 1) := by decide +kernel
theorem d_Re_indexOf_38 : decode prog_6_method_5_code 38 = .ok (.invokevirtual 64, 3) := by decide +kernel
theorem d_Re_indexOf_41 : decode prog_6_method_5_code 41 = .ok (.ireturn, 1) := by decide +kernel
theorem d_Re_indexOf_42 : decode prog_6_method_5_code 42 = .ok (.aload_n 0, 1) := by decide +kernel
theorem d_Re_indexOf_43 : decode prog_6_method_5_code 43 = .ok (.getfield 9, 3) := by decide +kernel
theorem d_Re_indexOf_46 : decode prog_6_method_5_code 46 = .ok (.iload 5, 2) := by decide +kernel
theorem d_Re_indexOf_48 : decode prog_6_method_5_code 48 = .ok (.laload, 1) := by decide +kernel
theorem d_Re_indexOf_49 : decode prog_6_method_5_code 49 = .ok (.lload_n 1, 1) := by decide +kernel
theorem d_Re_indexOf_50 : decode prog_6_method_5_code 50 = .ok (.lcmp, 1) := by decide +kernel
theorem d_Re_indexOf_51 : decode prog_6_method_5_code 51 = .ok (.ifCond .ne 6, 3) := by decide +kernel
theorem d_Re_indexOf_54 : decode prog_6_method_5_code 54 = .ok (.iload 5, 2) := by decide +kernel
theorem d_Re_indexOf_56 : decode prog_6_method_5_code 56 = .ok (.ireturn, 1) := by decide +kernel
theorem d_Re_indexOf_57 : decode prog_6_method_5_code 57 = .ok (.iload_n 3, 1) := by decide +kernel
theorem d_Re_indexOf_58 : decode prog_6_method_5_code 58 = .ok (.iconst 1, 1) := by decide +kernel
theorem d_Re_indexOf_59 : decode prog_6_method_5_code 59 = .ok (.iadd, 1) := by decide +kernel
theorem d_Re_indexOf_60 : decode prog_6_method_5_code 60 = .ok (.sipush 512, 3) := by decide +kernel
theorem d_Re_indexOf_63 : decode prog_6_method_5_code 63 = .ok (.irem, 1) := by decide +kernel
theorem d_Re_indexOf_64 : decode prog_6_method_5_code 64 = .ok (.istore_n 3, 1) := by decide +kernel
theorem d_Re_indexOf_65 : decode prog_6_method_5_code 65 = .ok (.iinc 4 1, 3) := by decide +kernel
theorem d_Re_indexOf_68 : decode prog_6_method_5_code 68 = .ok (.goto (-55), 3) := by decide +kernel
theorem d_Re_indexOf_71 : decode prog_6_method_5_code 71 = .ok (.iconst (-1), 1) := by decide +kernel
theorem d_Re_indexOf_72 : decode prog_6_method_5_code 72 = .ok (.ireturn, 1) := by decide +kernel
set_option maxRecDepth 20000 in
set_option maxHeartbeats 4000000 in
theorem cR_indexOf (E : fk_E) (r0 : Nat) (r1 : Nat) (r2 : Nat) (r3 : Nat) (r4 : Nat) (c : Nat) (ev : Nat) (sn : Nat → Nat) (sl : Nat → Nat) (y : Nat) (hy : y < 2 ^ 64) (hV : fe_V c sn) (hH : fe_H c sn sl) : fk_C E fy_Re_indexOf prog_6_method_5_code 6 (some .int) 1 0 0 [.ref r0, .long (lN y)] [(r0, .inr (4, [.ref r1, .ref r2, .ref r3, .ref r4, .int (nI c), .int (nI ev)])), fk_al E r1 200 sn, fk_aj E r2 512 sl] (S := Nat × Nat × (Nat → Nat) × (Nat → Nat)) (fun (u : Nat × Nat × (Nat → Nat) × (Nat → Nat)) => some (.int (nI u.1 - 1))) (fun (u : Nat × Nat × (Nat → Nat) × (Nat → Nat)) => (fe_find sn y c < c → u.1 = fe_find sn y c + 1 ∧ u.2.1 = c ∧ u.2.2.1 = sn ∧ u.2.2.2 = sl) ∧ (¬ fe_find sn y c < c → (c = 200 → u.1 = 0) ∧ (c < 200 → u.1 = c + 1 ∧ u.2.1 = c + 1 ∧ u.2.2.1 = va_up sn c y ∧ fe_H (c + 1) (va_up sn c y) u.2.2.2))) (fun (u : Nat × Nat × (Nat → Nat) × (Nat → Nat)) => [(r0, .inr (4, [.ref r1, .ref r2, .ref r3, .ref r4, .int (nI u.2.1), .int (nI ev)])), fk_al E r1 200 u.2.2.1, fk_aj E r2 512 u.2.2.2]) := by
  refine fk_enterI (v := fun (u : Nat × Nat × (Nat → Nat) × (Nat → Nat)) => (nI u.1 - 1)) (by decide) (Nat.le_of_ble_eq_true rfl) (lv0 := [(0, .ref r0), (1, .long (lN y))]) rfl ?_
  intro K hini hret
  have hc := hV.1
  have hh := fe_h_lt y
  refine fk_lload_n 1 d_Re_indexOf_0 rfl ?_
  refine fk_ldc2 (v := (-7046029254386353131 : Int64)) d_Re_indexOf_1 fw_393 ?_
  refine fk_topl (show (-7046029254386353131 : Int64) = lN 11400714819323198485 by decide +kernel) ?_
  refine fk_lmulR d_Re_indexOf_4 ?_
  refine fk_topl (show ((lN y) * (lN 11400714819323198485)) = (lN (y * 11400714819323198485 % 2 ^ 64)) from (lN_mul _ _).trans (fn_lmod _)) ?_
  refine fk_bipush (v := nI 55) d_Re_indexOf_5 (by decide +kernel) ?_
  refine fk_lushr d_Re_indexOf_7 (fn_lushr (a := (y * 11400714819323198485 % 2 ^ 64)) (k := 55) (Nat.mod_lt _ (by decide)) (by decide)) ?_
  refine fk_l2i d_Re_indexOf_8 (lN_i ((y * 11400714819323198485 % 2 ^ 64) / 2 ^ 55)) ?_
  refine fk_top (show (nI ((y * 11400714819323198485 % 2 ^ 64) / 2 ^ 55)) = (nI (fe_h y)) from rfl) ?_
  refine fk_istore_n (lv' := [(0, .ref r0), (1, .long (lN y)), (3, .int (nI (fe_h y)))]) d_Re_indexOf_9 rfl (Nat.le_of_ble_eq_true rfl) [1, 2, 0] rfl ?_
  refine fk_iconst (v := nI 0) d_Re_indexOf_10 (by decide +kernel) ?_
  refine fk_istore (lv' := [(0, .ref r0), (1, .long (lN y)), (3, .int (nI (fe_h y))), (4, .int (nI 0))]) d_Re_indexOf_11 (Nat.le_of_ble_eq_true rfl) [1, 2, 3, 0] rfl ?_
  have L13 : ∀ (fuel : Nat) (d : Nat) (q : Nat), (d ≤ 512) → (q = (fe_h y + d) % 512) → (∀ e, e < d → sl ((fe_h y + e) % 512) ≠ 0 ∧ sn (sl ((fe_h y + e) % 512) - 1) ≠ y) → 512 - d < fuel → fk_V E (prog_6_method_5_code, fy_Re_indexOf.cls, 6, fk_rm 1 0 0) K (0, 0) [(r0, .inr (4, [.ref r1, .ref r2, .ref r3, .ref r4, .int (nI c), .int (nI ev)])), fk_al E r1 200 sn, fk_aj E r2 512 sl] 13 [(0, .ref r0), (1, .long (lN y)), (3, .int (nI q)), (4, .int (nI d))] [] := by
    intro fuel
    induction fuel with
    | zero => intro d q _ _ _ hm; exact absurd hm (Nat.not_lt_zero _)
    | succ fuel ih =>
      intro d q h1 h2 h3 hm13
      have ih13 := ih
      clear ih
      refine fk_iload 3 d_Re_indexOf_13 rfl ?_
      refine fk_sipush (v := nI 512) d_Re_indexOf_15 (by decide +kernel) ?_
      refine fk_icmp_ge (a := d) (b := 512) (by omega) (by omega) d_Re_indexOf_18 rfl (fun h18t => ?_) (fun h18f => ?_)
      · exfalso
        exact fe_H_end hH hc (fun e he => (h3 e (by omega)).1)
      · have g1 := hH.1 q (by omega)
        refine fk_aload_n 0 d_Re_indexOf_21 rfl ?_
        refine fk_get 0 1 rfl rfl fh_Re (Nat.le_of_ble_eq_true rfl) fw_103 rfl d_Re_indexOf_22 ?_
        refine fk_iload_n 2 d_Re_indexOf_25 rfl ?_
        refine fk_ld_aj (i := q) 2 rfl (by omega) (by decide) d_Re_indexOf_26 ?_
        refine fk_istore (lv' := [(0, .ref r0), (1, .long (lN y)), (3, .int (nI q)), (4, .int (nI d)), (5, .int (nI (sl q) - 1))]) d_Re_indexOf_27 (Nat.le_of_ble_eq_true rfl) [1, 2, 3, 4, 0] rfl ?_
        refine fk_iload 4 d_Re_indexOf_29 rfl ?_
        refine fk_iconst (v := nI 0 - 1) d_Re_indexOf_31 (by decide +kernel) ?_
        refine fk_icmp_neJ (a := (sl q)) (b := 0) (by omega) (by omega) d_Re_indexOf_32 rfl (fun h32t => ?_) (fun h32f => ?_)
        · refine fk_aload_n 0 d_Re_indexOf_42 rfl ?_
          refine fk_get 0 0 rfl rfl fh_Re (Nat.le_of_ble_eq_true rfl) fw_102 rfl d_Re_indexOf_43 ?_
          refine fk_iload 4 d_Re_indexOf_46 rfl ?_
          refine fk_top (show (nI (sl q) - 1) = (nI (sl q - 1)) from fn_jn (by omega)) ?_
          refine fk_ld_al (i := (sl q - 1)) 1 rfl (by omega) (by decide) d_Re_indexOf_48 ?_
          refine fk_lload_n 1 d_Re_indexOf_49 rfl ?_
          refine fk_lcmpR d_Re_indexOf_50 ?_
          refine fk_cmp_ne (a := (sn (sl q - 1))) (b := y) ((hV.2.1 _ (by omega)).1) (hy) d_Re_indexOf_51 rfl (fun h51t => ?_) (fun h51f => ?_)
          · refine fk_iload_n 2 d_Re_indexOf_57 rfl ?_
            refine fk_iconst (v := nI 1) d_Re_indexOf_58 (by decide +kernel) ?_
            refine fk_iadd (a := q) (b := 1) d_Re_indexOf_59 ?_
            refine fk_sipush (v := nI 512) d_Re_indexOf_60 (by decide +kernel) ?_
            refine fk_irem (a := (q + 1)) (b := 512) d_Re_indexOf_63 (by omega) (by omega) (by omega) ?_
            refine fk_istore_n (lv' := [(0, .ref r0), (1, .long (lN y)), (3, .int (nI ((q + 1) % 512))), (4, .int (nI d)), (5, .int (nI (sl q) - 1))]) d_Re_indexOf_64 rfl (Nat.le_of_ble_eq_true rfl) [1, 2, 0, 3, 4] rfl ?_
            refine fk_iinc (j := 3) (lv' := [(0, .ref r0), (1, .long (lN y)), (3, .int (nI ((q + 1) % 512))), (4, .int (nI (d + 1))), (5, .int (nI (sl q) - 1))]) (d + 1) d_Re_indexOf_65 rfl (nI_1 d) (Nat.le_of_ble_eq_true rfl) [1, 2, 3, 0, 4] rfl ?_
            refine fk_goto d_Re_indexOf_68 rfl ?_
            refine fk_lv (lv' := [(0, .ref r0), (1, .long (lN y)), (3, .int (nI ((q + 1) % 512))), (4, .int (nI (d + 1)))]) [0, 1, 2, 3] rfl ?_
            refine ih13 _ _ ?_ ?_ ?_ ?_
            · first | omega | assumption | exact Nat.zero_le _
            · first | omega | assumption | exact Nat.zero_le _
            · intro e he
              rcases Nat.lt_or_ge e d with z | z
              · exact h3 e z
              · rw [show e = d by omega, ← h2]
                exact ⟨h32t, h51t⟩
            · omega
          · refine fk_iload 4 d_Re_indexOf_54 rfl ?_
            refine fk_top (show (nI (sl q) - 1) = (nI (sl q) - 1) from by first | rfl | simp_all) ?_
            exact hret (0, 0) _ 56 _ (sl q, c, sn, sl) d_Re_indexOf_56 (by have g5 : fe_find sn y c = sl q - 1 := fe_find_eq hV.2.2 (by omega) h51f; exact ⟨fun _ => ⟨show sl q = _ by omega, rfl, rfl, rfl⟩, fun z => absurd (show fe_find sn y c < c by omega) z⟩) (rfl)
        · have g2 : ∀ i, i < c → sn i ≠ y := fe_H_none (d := d) hH h3 (by rw [← h2]; exact h32f)
          have g3 := fe_find_none g2
          rcases Nat.lt_or_ge c 200 with g4 | g4
          · refine fk_aload_n 0 d_Re_indexOf_35 rfl ?_
            refine fk_iload_n 2 d_Re_indexOf_36 rfl ?_
            refine fk_lload_n 1 d_Re_indexOf_37 rfl ?_
            refine fk_callV (q0 := 0) (As := [.int (nI q), .long (lN y)]) (rest := []) (is := [0, 1, 2]) (ir := []) (ip := [0, 1, 2]) (wc := [(r0, .inr (4, [.ref r1, .ref r2, .ref r3, .ref r4, .int (nI c), .int (nI ev)])), fk_al E r1 200 sn, fk_aj E r2 512 sl]) (wr := []) (w2 := fun _ => [(r0, .inr (4, [.ref r1, .ref r2, .ref r3, .ref r4, .int (nI (c + 1)), .int (nI ev)])), fk_al E r1 200 (va_up sn c y), fk_aj E r2 512 (va_up sl q (c + 1))]) (cR_addAt E r0 r1 r2 r3 r4 c ev sn sl q y (by first | omega | assumption) (by first | omega | assumption)) d_Re_indexOf_38 fz_Re_addAt fw_394 rfl rfl fw_396 fw_p9 ⟨Nat.le_of_ble_eq_true rfl, Nat.le_of_ble_eq_true rfl⟩ rfl (Nat.le_of_ble_eq_true rfl) ⟨Nat.zero_le _, Nat.zero_le _⟩ ⟨rfl, rfl, rfl, rfl, by decide, fun _ => rfl, rfl⟩ (fun u hu38 => ?_)
            show fk_V E _ K (0, 0) [(r0, .inr (4, [.ref r1, .ref r2, .ref r3, .ref r4, .int (nI (c + 1)), .int (nI ev)])), fk_al E r1 200 (va_up sn c y), fk_aj E r2 512 (va_up sl q (c + 1))] 41 [(0, .ref r0), (1, .long (lN y)), (3, .int (nI q)), (4, .int (nI d)), (5, .int (nI (sl q) - 1))] [.int (nI (c + 1) - 1)]
            refine fk_top (show (nI (c + 1) - 1) = (nI (c + 1) - 1) from by first | rfl | simp_all) ?_
            exact hret (0, 0) _ 41 _ (c + 1, c + 1, va_up sn c y, va_up sl q (c + 1)) d_Re_indexOf_41 (⟨fun z => absurd z (by omega), fun _ => ⟨fun z => absurd z (by omega), fun _ => ⟨rfl, rfl, rfl, by rw [h2]; exact fe_H_add hH h3 h18f (by rw [← h2]; exact h32f)⟩⟩⟩) (rfl)
          · refine fk_aload_n 0 d_Re_indexOf_35 rfl ?_
            refine fk_iload_n 2 d_Re_indexOf_36 rfl ?_
            refine fk_lload_n 1 d_Re_indexOf_37 rfl ?_
            refine fk_callV (q0 := 0) (As := [.int (nI q), .long (lN y)]) (rest := []) (is := [0, 1, 2]) (ir := []) (ip := [0, 1, 2]) (wc := [(r0, .inr (4, [.ref r1, .ref r2, .ref r3, .ref r4, .int (nI c), .int (nI ev)])), fk_al E r1 200 sn, fk_aj E r2 512 sl]) (wr := []) (w2 := fun _ => [(r0, .inr (4, [.ref r1, .ref r2, .ref r3, .ref r4, .int (nI c), .int (nI ev)])), fk_al E r1 200 sn, fk_aj E r2 512 sl]) (cR_addAtF E r0 r1 r2 r3 r4 c ev sn sl q y (by first | omega | assumption)) d_Re_indexOf_38 fz_Re_addAt fw_394 rfl rfl fw_396 fw_p9 ⟨Nat.le_of_ble_eq_true rfl, Nat.le_of_ble_eq_true rfl⟩ rfl (Nat.le_of_ble_eq_true rfl) ⟨Nat.zero_le _, Nat.zero_le _⟩ ⟨rfl, rfl, rfl, rfl, by decide, fun _ => rfl, rfl⟩ (fun u hu38 => ?_)
            show fk_V E _ K (0, 0) [(r0, .inr (4, [.ref r1, .ref r2, .ref r3, .ref r4, .int (nI c), .int (nI ev)])), fk_al E r1 200 sn, fk_aj E r2 512 sl] 41 [(0, .ref r0), (1, .long (lN y)), (3, .int (nI q)), (4, .int (nI d)), (5, .int (nI (sl q) - 1))] [.int (nI 0 - 1)]
            exact hret (0, 0) _ 41 _ (0, c, sn, sl) d_Re_indexOf_41 (⟨fun z => absurd z (by omega), fun _ => ⟨fun _ => rfl, fun z => absurd z (by omega)⟩⟩) (rfl)
  refine L13 _ _ _ ?_ ?_ ?_ (Nat.lt_succ_self _)
  · first | omega | assumption | exact Nat.zero_le _
  · first | omega | assumption | exact Nat.zero_le _
  · exact fun e he => absurd he (Nat.not_lt_zero e)
